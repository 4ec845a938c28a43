-- ===== PART A: goes FIRST, ahead of the names: the tables' words, and 'selects' of the private methods out of them =====
/-- a private method of a class that the tables say can be made, by its rows of tables_1 -/
def lw_okq (q : MethodName × Nat) : Prop := (q.1.cls ≠ "java/lang/invoke/MethodHandle" ∧ q.1.cls ≠ "java/lang/invoke/VarHandle") ∧ Cond.instantiable q.1.cls q.2 ∈ tables_1 ∧ Cond.privateMethod q.1 ∈ tables_1 ∧ Cond.instanceMethod q.1 ∈ tables_1
theorem lw_p0 : lw_okq (⟨"AlwaysAhead", "refuse", "(I)I"⟩, 9) := ⟨⟨by decide +kernel, by decide +kernel⟩, List.mem_of_getElem? (i := 15) (by decide +kernel), List.mem_of_getElem? (i := 225) (by decide +kernel), List.mem_of_getElem? (i := 226) (by decide +kernel)⟩
theorem lw_p1 : lw_okq (⟨"AlwaysAhead", "againstRows", "(II)I"⟩, 9) := ⟨⟨by decide +kernel, by decide +kernel⟩, List.mem_of_getElem? (i := 15) (by decide +kernel), List.mem_of_getElem? (i := 240) (by decide +kernel), List.mem_of_getElem? (i := 241) (by decide +kernel)⟩
theorem lw_p2 : lw_okq (⟨"AlwaysAhead", "saying", "(II)I"⟩, 9) := ⟨⟨by decide +kernel, by decide +kernel⟩, List.mem_of_getElem? (i := 15) (by decide +kernel), List.mem_of_getElem? (i := 305) (by decide +kernel), List.mem_of_getElem? (i := 306) (by decide +kernel)⟩
theorem lw_p3 : lw_okq (⟨"AlwaysAhead$Cells", "layNothing", "()V"⟩, 8) := ⟨⟨by decide +kernel, by decide +kernel⟩, List.mem_of_getElem? (i := 102) (by decide +kernel), List.mem_of_getElem? (i := 313) (by decide +kernel), List.mem_of_getElem? (i := 314) (by decide +kernel)⟩
theorem lw_p4 : lw_okq (⟨"AlwaysAhead$Cells", "layHeap", "(II)V"⟩, 8) := ⟨⟨by decide +kernel, by decide +kernel⟩, List.mem_of_getElem? (i := 102) (by decide +kernel), List.mem_of_getElem? (i := 317) (by decide +kernel), List.mem_of_getElem? (i := 318) (by decide +kernel)⟩
theorem lw_p5 : lw_okq (⟨"AlwaysAhead", "sayingOnce", "(I)I"⟩, 9) := ⟨⟨by decide +kernel, by decide +kernel⟩, List.mem_of_getElem? (i := 15) (by decide +kernel), List.mem_of_getElem? (i := 356) (by decide +kernel), List.mem_of_getElem? (i := 357) (by decide +kernel)⟩
theorem lw_p6 : lw_okq (⟨"AlwaysAhead$Cells", "walk", "()V"⟩, 8) := ⟨⟨by decide +kernel, by decide +kernel⟩, List.mem_of_getElem? (i := 102) (by decide +kernel), List.mem_of_getElem? (i := 364) (by decide +kernel), List.mem_of_getElem? (i := 365) (by decide +kernel)⟩
theorem lw_p7 : lw_okq (⟨"AlwaysAhead$Cells", "walkInto", "(II)V"⟩, 8) := ⟨⟨by decide +kernel, by decide +kernel⟩, List.mem_of_getElem? (i := 102) (by decide +kernel), List.mem_of_getElem? (i := 372) (by decide +kernel), List.mem_of_getElem? (i := 373) (by decide +kernel)⟩
theorem lw_p8 : lw_okq (⟨"AlwaysAhead$Tape", "nextToken", "()V"⟩, 6) := ⟨⟨by decide +kernel, by decide +kernel⟩, List.mem_of_getElem? (i := 136) (by decide +kernel), List.mem_of_getElem? (i := 446) (by decide +kernel), List.mem_of_getElem? (i := 447) (by decide +kernel)⟩
theorem lw_p9 : lw_okq (⟨"AlwaysAhead$Tape", "statement", "(LAlwaysAhead$Drum;)Z"⟩, 6) := ⟨⟨by decide +kernel, by decide +kernel⟩, List.mem_of_getElem? (i := 136) (by decide +kernel), List.mem_of_getElem? (i := 454) (by decide +kernel), List.mem_of_getElem? (i := 455) (by decide +kernel)⟩
theorem lw_p10 : lw_okq (⟨"AlwaysAhead$Tape", "isWord", "(Ljava/lang/String;)Z"⟩, 6) := ⟨⟨by decide +kernel, by decide +kernel⟩, List.mem_of_getElem? (i := 136) (by decide +kernel), List.mem_of_getElem? (i := 459) (by decide +kernel), List.mem_of_getElem? (i := 460) (by decide +kernel)⟩
theorem lw_p11 : lw_okq (⟨"AlwaysAhead$Tape", "heapStatement", "(LAlwaysAhead$Drum;)Z"⟩, 6) := ⟨⟨by decide +kernel, by decide +kernel⟩, List.mem_of_getElem? (i := 136) (by decide +kernel), List.mem_of_getElem? (i := 511) (by decide +kernel), List.mem_of_getElem? (i := 512) (by decide +kernel)⟩
theorem lw_p12 : lw_okq (⟨"AlwaysAhead$Tape", "isNumberNext", "(I)Z"⟩, 6) := ⟨⟨by decide +kernel, by decide +kernel⟩, List.mem_of_getElem? (i := 136) (by decide +kernel), List.mem_of_getElem? (i := 515) (by decide +kernel), List.mem_of_getElem? (i := 516) (by decide +kernel)⟩
theorem lw_p13 : lw_okq (⟨"AlwaysAhead$Tape", "factStatement", "(LAlwaysAhead$Drum;)Z"⟩, 6) := ⟨⟨by decide +kernel, by decide +kernel⟩, List.mem_of_getElem? (i := 136) (by decide +kernel), List.mem_of_getElem? (i := 522) (by decide +kernel), List.mem_of_getElem? (i := 523) (by decide +kernel)⟩
theorem lw_p14 : lw_okq (⟨"AlwaysAhead$Tape", "readStatement", "(LAlwaysAhead$Drum;)Z"⟩, 6) := ⟨⟨by decide +kernel, by decide +kernel⟩, List.mem_of_getElem? (i := 136) (by decide +kernel), List.mem_of_getElem? (i := 528) (by decide +kernel), List.mem_of_getElem? (i := 529) (by decide +kernel)⟩
theorem lw_p15 : lw_okq (⟨"AlwaysAhead$Tape", "swapStatement", "(LAlwaysAhead$Drum;)Z"⟩, 6) := ⟨⟨by decide +kernel, by decide +kernel⟩, List.mem_of_getElem? (i := 136) (by decide +kernel), List.mem_of_getElem? (i := 549) (by decide +kernel), List.mem_of_getElem? (i := 550) (by decide +kernel)⟩
def lw_privs_1 : List (MethodName × Nat) := [(⟨"AlwaysAhead", "refuse", "(I)I"⟩, 9), (⟨"AlwaysAhead", "againstRows", "(II)I"⟩, 9), (⟨"AlwaysAhead", "saying", "(II)I"⟩, 9), (⟨"AlwaysAhead$Cells", "layNothing", "()V"⟩, 8), (⟨"AlwaysAhead$Cells", "layHeap", "(II)V"⟩, 8), (⟨"AlwaysAhead", "sayingOnce", "(I)I"⟩, 9), (⟨"AlwaysAhead$Cells", "walk", "()V"⟩, 8), (⟨"AlwaysAhead$Cells", "walkInto", "(II)V"⟩, 8), (⟨"AlwaysAhead$Tape", "nextToken", "()V"⟩, 6), (⟨"AlwaysAhead$Tape", "statement", "(LAlwaysAhead$Drum;)Z"⟩, 6), (⟨"AlwaysAhead$Tape", "isWord", "(Ljava/lang/String;)Z"⟩, 6), (⟨"AlwaysAhead$Tape", "heapStatement", "(LAlwaysAhead$Drum;)Z"⟩, 6), (⟨"AlwaysAhead$Tape", "isNumberNext", "(I)Z"⟩, 6), (⟨"AlwaysAhead$Tape", "factStatement", "(LAlwaysAhead$Drum;)Z"⟩, 6), (⟨"AlwaysAhead$Tape", "readStatement", "(LAlwaysAhead$Drum;)Z"⟩, 6), (⟨"AlwaysAhead$Tape", "swapStatement", "(LAlwaysAhead$Drum;)Z"⟩, 6)]
theorem lw_r1 : ∀ q ∈ lw_privs_1, lw_okq q := List.forall_mem_cons.mpr ⟨lw_p0, List.forall_mem_cons.mpr ⟨lw_p1, List.forall_mem_cons.mpr ⟨lw_p2, List.forall_mem_cons.mpr ⟨lw_p3, List.forall_mem_cons.mpr ⟨lw_p4, List.forall_mem_cons.mpr ⟨lw_p5, List.forall_mem_cons.mpr ⟨lw_p6, List.forall_mem_cons.mpr ⟨lw_p7, List.forall_mem_cons.mpr ⟨lw_p8, List.forall_mem_cons.mpr ⟨lw_p9, List.forall_mem_cons.mpr ⟨lw_p10, List.forall_mem_cons.mpr ⟨lw_p11, List.forall_mem_cons.mpr ⟨lw_p12, List.forall_mem_cons.mpr ⟨lw_p13, List.forall_mem_cons.mpr ⟨lw_p14, List.forall_mem_cons.mpr ⟨lw_p15, fun _ h => absurd h List.not_mem_nil⟩⟩⟩⟩⟩⟩⟩⟩⟩⟩⟩⟩⟩⟩⟩⟩
theorem lw_p16 : lw_okq (⟨"AlwaysAhead$Cells", "keepFact", "(III)V"⟩, 8) := ⟨⟨by decide +kernel, by decide +kernel⟩, List.mem_of_getElem? (i := 102) (by decide +kernel), List.mem_of_getElem? (i := 615) (by decide +kernel), List.mem_of_getElem? (i := 616) (by decide +kernel)⟩
theorem lw_p17 : lw_okq (⟨"AlwaysAhead", "fittingAhead", "(I)I"⟩, 9) := ⟨⟨by decide +kernel, by decide +kernel⟩, List.mem_of_getElem? (i := 15) (by decide +kernel), List.mem_of_getElem? (i := 634) (by decide +kernel), List.mem_of_getElem? (i := 635) (by decide +kernel)⟩
theorem lw_p18 : lw_okq (⟨"AlwaysAhead", "tallyLevel", "()V"⟩, 9) := ⟨⟨by decide +kernel, by decide +kernel⟩, List.mem_of_getElem? (i := 15) (by decide +kernel), List.mem_of_getElem? (i := 647) (by decide +kernel), List.mem_of_getElem? (i := 648) (by decide +kernel)⟩
theorem lw_p19 : lw_okq (⟨"AlwaysAhead$Cells", "tallyInto", "(III)V"⟩, 8) := ⟨⟨by decide +kernel, by decide +kernel⟩, List.mem_of_getElem? (i := 102) (by decide +kernel), List.mem_of_getElem? (i := 659) (by decide +kernel), List.mem_of_getElem? (i := 660) (by decide +kernel)⟩
theorem lw_p20 : lw_okq (⟨"AlwaysAhead", "fittingNotAbove", "(I)I"⟩, 9) := ⟨⟨by decide +kernel, by decide +kernel⟩, List.mem_of_getElem? (i := 15) (by decide +kernel), List.mem_of_getElem? (i := 677) (by decide +kernel), List.mem_of_getElem? (i := 678) (by decide +kernel)⟩
theorem lw_p21 : lw_okq (⟨"AlwaysAhead", "tallySure", "()V"⟩, 9) := ⟨⟨by decide +kernel, by decide +kernel⟩, List.mem_of_getElem? (i := 15) (by decide +kernel), List.mem_of_getElem? (i := 692) (by decide +kernel), List.mem_of_getElem? (i := 693) (by decide +kernel)⟩
theorem lw_p22 : lw_okq (⟨"AlwaysAhead", "firstWrong", "(LAlwaysAhead$Shelf;)I"⟩, 9) := ⟨⟨by decide +kernel, by decide +kernel⟩, List.mem_of_getElem? (i := 15) (by decide +kernel), List.mem_of_getElem? (i := 738) (by decide +kernel), List.mem_of_getElem? (i := 739) (by decide +kernel)⟩
theorem lw_p23 : lw_okq (⟨"AlwaysAhead", "againstTold", "(I)I"⟩, 9) := ⟨⟨by decide +kernel, by decide +kernel⟩, List.mem_of_getElem? (i := 15) (by decide +kernel), List.mem_of_getElem? (i := 755) (by decide +kernel), List.mem_of_getElem? (i := 756) (by decide +kernel)⟩
theorem lw_p24 : lw_okq (⟨"AlwaysAhead", "spentBy", "(I)J"⟩, 9) := ⟨⟨by decide +kernel, by decide +kernel⟩, List.mem_of_getElem? (i := 15) (by decide +kernel), List.mem_of_getElem? (i := 771) (by decide +kernel), List.mem_of_getElem? (i := 772) (by decide +kernel)⟩
theorem lw_p25 : lw_okq (⟨"AlwaysAhead", "tryOrder", "(I)V"⟩, 9) := ⟨⟨by decide +kernel, by decide +kernel⟩, List.mem_of_getElem? (i := 15) (by decide +kernel), List.mem_of_getElem? (i := 775) (by decide +kernel), List.mem_of_getElem? (i := 776) (by decide +kernel)⟩
theorem lw_p26 : lw_okq (⟨"AlwaysAhead", "againstBooks", "(II)I"⟩, 9) := ⟨⟨by decide +kernel, by decide +kernel⟩, List.mem_of_getElem? (i := 15) (by decide +kernel), List.mem_of_getElem? (i := 798) (by decide +kernel), List.mem_of_getElem? (i := 799) (by decide +kernel)⟩
theorem lw_p27 : lw_okq (⟨"AlwaysAhead", "agreeing", "(LAlwaysAhead$Shelf;LAlwaysAhead$Shelf;)I"⟩, 9) := ⟨⟨by decide +kernel, by decide +kernel⟩, List.mem_of_getElem? (i := 15) (by decide +kernel), List.mem_of_getElem? (i := 805) (by decide +kernel), List.mem_of_getElem? (i := 806) (by decide +kernel)⟩
theorem lw_p28 : lw_okq (⟨"AlwaysAhead$Drum", "drawBelow", "(I)I"⟩, 14) := ⟨⟨by decide +kernel, by decide +kernel⟩, List.mem_of_getElem? (i := 23) (by decide +kernel), List.mem_of_getElem? (i := 821) (by decide +kernel), List.mem_of_getElem? (i := 822) (by decide +kernel)⟩
theorem lw_p29 : lw_okq (⟨"AlwaysAhead", "shelvesInUse", "()I"⟩, 9) := ⟨⟨by decide +kernel, by decide +kernel⟩, List.mem_of_getElem? (i := 15) (by decide +kernel), List.mem_of_getElem? (i := 851) (by decide +kernel), List.mem_of_getElem? (i := 852) (by decide +kernel)⟩
theorem lw_p30 : lw_okq (⟨"AlwaysAheadModel", "refuse", "(I)I"⟩, 40) := ⟨⟨by decide +kernel, by decide +kernel⟩, List.mem_of_getElem? (i := 856) (by decide +kernel), List.mem_of_getElem? (i := 1000) (by decide +kernel), List.mem_of_getElem? (i := 1001) (by decide +kernel)⟩
theorem lw_p31 : lw_okq (⟨"AlwaysAheadModel", "noRow", "(I)I"⟩, 40) := ⟨⟨by decide +kernel, by decide +kernel⟩, List.mem_of_getElem? (i := 856) (by decide +kernel), List.mem_of_getElem? (i := 1008) (by decide +kernel), List.mem_of_getElem? (i := 1009) (by decide +kernel)⟩
def lw_privs_2 : List (MethodName × Nat) := [(⟨"AlwaysAhead$Cells", "keepFact", "(III)V"⟩, 8), (⟨"AlwaysAhead", "fittingAhead", "(I)I"⟩, 9), (⟨"AlwaysAhead", "tallyLevel", "()V"⟩, 9), (⟨"AlwaysAhead$Cells", "tallyInto", "(III)V"⟩, 8), (⟨"AlwaysAhead", "fittingNotAbove", "(I)I"⟩, 9), (⟨"AlwaysAhead", "tallySure", "()V"⟩, 9), (⟨"AlwaysAhead", "firstWrong", "(LAlwaysAhead$Shelf;)I"⟩, 9), (⟨"AlwaysAhead", "againstTold", "(I)I"⟩, 9), (⟨"AlwaysAhead", "spentBy", "(I)J"⟩, 9), (⟨"AlwaysAhead", "tryOrder", "(I)V"⟩, 9), (⟨"AlwaysAhead", "againstBooks", "(II)I"⟩, 9), (⟨"AlwaysAhead", "agreeing", "(LAlwaysAhead$Shelf;LAlwaysAhead$Shelf;)I"⟩, 9), (⟨"AlwaysAhead$Drum", "drawBelow", "(I)I"⟩, 14), (⟨"AlwaysAhead", "shelvesInUse", "()I"⟩, 9), (⟨"AlwaysAheadModel", "refuse", "(I)I"⟩, 40), (⟨"AlwaysAheadModel", "noRow", "(I)I"⟩, 40)]
theorem lw_r2 : ∀ q ∈ lw_privs_2, lw_okq q := List.forall_mem_cons.mpr ⟨lw_p16, List.forall_mem_cons.mpr ⟨lw_p17, List.forall_mem_cons.mpr ⟨lw_p18, List.forall_mem_cons.mpr ⟨lw_p19, List.forall_mem_cons.mpr ⟨lw_p20, List.forall_mem_cons.mpr ⟨lw_p21, List.forall_mem_cons.mpr ⟨lw_p22, List.forall_mem_cons.mpr ⟨lw_p23, List.forall_mem_cons.mpr ⟨lw_p24, List.forall_mem_cons.mpr ⟨lw_p25, List.forall_mem_cons.mpr ⟨lw_p26, List.forall_mem_cons.mpr ⟨lw_p27, List.forall_mem_cons.mpr ⟨lw_p28, List.forall_mem_cons.mpr ⟨lw_p29, List.forall_mem_cons.mpr ⟨lw_p30, List.forall_mem_cons.mpr ⟨lw_p31, fun _ h => absurd h List.not_mem_nil⟩⟩⟩⟩⟩⟩⟩⟩⟩⟩⟩⟩⟩⟩⟩⟩
theorem lw_p32 : lw_okq (⟨"AlwaysAheadModel", "noRows", "(IIZ)I"⟩, 40) := ⟨⟨by decide +kernel, by decide +kernel⟩, List.mem_of_getElem? (i := 856) (by decide +kernel), List.mem_of_getElem? (i := 1019) (by decide +kernel), List.mem_of_getElem? (i := 1020) (by decide +kernel)⟩
theorem lw_p33 : lw_okq (⟨"AlwaysAheadModel", "drawn", "(II)J"⟩, 40) := ⟨⟨by decide +kernel, by decide +kernel⟩, List.mem_of_getElem? (i := 856) (by decide +kernel), List.mem_of_getElem? (i := 1044) (by decide +kernel), List.mem_of_getElem? (i := 1045) (by decide +kernel)⟩
theorem lw_p34 : lw_okq (⟨"AlwaysAheadModel", "seeOneHeap", "()V"⟩, 40) := ⟨⟨by decide +kernel, by decide +kernel⟩, List.mem_of_getElem? (i := 856) (by decide +kernel), List.mem_of_getElem? (i := 1048) (by decide +kernel), List.mem_of_getElem? (i := 1049) (by decide +kernel)⟩
theorem lw_p35 : lw_okq (⟨"AlwaysAheadModel", "all", "()I"⟩, 40) := ⟨⟨by decide +kernel, by decide +kernel⟩, List.mem_of_getElem? (i := 856) (by decide +kernel), List.mem_of_getElem? (i := 1052) (by decide +kernel), List.mem_of_getElem? (i := 1053) (by decide +kernel)⟩
theorem lw_p36 : lw_okq (⟨"AlwaysAheadModel", "allA", "()I"⟩, 40) := ⟨⟨by decide +kernel, by decide +kernel⟩, List.mem_of_getElem? (i := 856) (by decide +kernel), List.mem_of_getElem? (i := 1056) (by decide +kernel), List.mem_of_getElem? (i := 1057) (by decide +kernel)⟩
theorem lw_p37 : lw_okq (⟨"AlwaysAheadModel", "count", "(II)J"⟩, 40) := ⟨⟨by decide +kernel, by decide +kernel⟩, List.mem_of_getElem? (i := 856) (by decide +kernel), List.mem_of_getElem? (i := 1060) (by decide +kernel), List.mem_of_getElem? (i := 1061) (by decide +kernel)⟩
theorem lw_p38 : lw_okq (⟨"AlwaysAheadModel", "isSo", "(IIII)Z"⟩, 40) := ⟨⟨by decide +kernel, by decide +kernel⟩, List.mem_of_getElem? (i := 856) (by decide +kernel), List.mem_of_getElem? (i := 1064) (by decide +kernel), List.mem_of_getElem? (i := 1065) (by decide +kernel)⟩
theorem lw_p39 : lw_okq (⟨"AlwaysAheadModel", "seeHeaps", "()V"⟩, 40) := ⟨⟨by decide +kernel, by decide +kernel⟩, List.mem_of_getElem? (i := 856) (by decide +kernel), List.mem_of_getElem? (i := 1068) (by decide +kernel), List.mem_of_getElem? (i := 1069) (by decide +kernel)⟩
theorem lw_p40 : lw_okq (⟨"AlwaysAheadModel", "seeBack", "()V"⟩, 40) := ⟨⟨by decide +kernel, by decide +kernel⟩, List.mem_of_getElem? (i := 856) (by decide +kernel), List.mem_of_getElem? (i := 1072) (by decide +kernel), List.mem_of_getElem? (i := 1073) (by decide +kernel)⟩
theorem lw_p41 : lw_okq (⟨"AlwaysAheadModel", "countSurely", "(I)J"⟩, 40) := ⟨⟨by decide +kernel, by decide +kernel⟩, List.mem_of_getElem? (i := 856) (by decide +kernel), List.mem_of_getElem? (i := 1076) (by decide +kernel), List.mem_of_getElem? (i := 1077) (by decide +kernel)⟩
theorem lw_p42 : lw_okq (⟨"AlwaysAheadModel", "countBack", "()V"⟩, 40) := ⟨⟨by decide +kernel, by decide +kernel⟩, List.mem_of_getElem? (i := 856) (by decide +kernel), List.mem_of_getElem? (i := 1080) (by decide +kernel), List.mem_of_getElem? (i := 1081) (by decide +kernel)⟩
theorem lw_p43 : lw_okq (⟨"AlwaysAheadModel", "isSureAt", "(II)Z"⟩, 40) := ⟨⟨by decide +kernel, by decide +kernel⟩, List.mem_of_getElem? (i := 856) (by decide +kernel), List.mem_of_getElem? (i := 1084) (by decide +kernel), List.mem_of_getElem? (i := 1085) (by decide +kernel)⟩
theorem lw_p44 : lw_okq (⟨"AlwaysAheadModel", "addHeap", "(II)V"⟩, 40) := ⟨⟨by decide +kernel, by decide +kernel⟩, List.mem_of_getElem? (i := 856) (by decide +kernel), List.mem_of_getElem? (i := 1092) (by decide +kernel), List.mem_of_getElem? (i := 1093) (by decide +kernel)⟩
theorem lw_p45 : lw_okq (⟨"AlwaysAheadModel", "change", "(II)V"⟩, 40) := ⟨⟨by decide +kernel, by decide +kernel⟩, List.mem_of_getElem? (i := 856) (by decide +kernel), List.mem_of_getElem? (i := 1110) (by decide +kernel), List.mem_of_getElem? (i := 1111) (by decide +kernel)⟩
theorem lw_p46 : lw_okq (⟨"AlwaysAheadModel", "fresh", "()LAlwaysAheadModel;"⟩, 40) := ⟨⟨by decide +kernel, by decide +kernel⟩, List.mem_of_getElem? (i := 856) (by decide +kernel), List.mem_of_getElem? (i := 1127) (by decide +kernel), List.mem_of_getElem? (i := 1128) (by decide +kernel)⟩
theorem lw_p47 : lw_okq (⟨"AlwaysAheadModel", "takeFrom", "(LAlwaysAheadModel;)V"⟩, 40) := ⟨⟨by decide +kernel, by decide +kernel⟩, List.mem_of_getElem? (i := 856) (by decide +kernel), List.mem_of_getElem? (i := 1133) (by decide +kernel), List.mem_of_getElem? (i := 1134) (by decide +kernel)⟩
def lw_privs_3 : List (MethodName × Nat) := [(⟨"AlwaysAheadModel", "noRows", "(IIZ)I"⟩, 40), (⟨"AlwaysAheadModel", "drawn", "(II)J"⟩, 40), (⟨"AlwaysAheadModel", "seeOneHeap", "()V"⟩, 40), (⟨"AlwaysAheadModel", "all", "()I"⟩, 40), (⟨"AlwaysAheadModel", "allA", "()I"⟩, 40), (⟨"AlwaysAheadModel", "count", "(II)J"⟩, 40), (⟨"AlwaysAheadModel", "isSo", "(IIII)Z"⟩, 40), (⟨"AlwaysAheadModel", "seeHeaps", "()V"⟩, 40), (⟨"AlwaysAheadModel", "seeBack", "()V"⟩, 40), (⟨"AlwaysAheadModel", "countSurely", "(I)J"⟩, 40), (⟨"AlwaysAheadModel", "countBack", "()V"⟩, 40), (⟨"AlwaysAheadModel", "isSureAt", "(II)Z"⟩, 40), (⟨"AlwaysAheadModel", "addHeap", "(II)V"⟩, 40), (⟨"AlwaysAheadModel", "change", "(II)V"⟩, 40), (⟨"AlwaysAheadModel", "fresh", "()LAlwaysAheadModel;"⟩, 40), (⟨"AlwaysAheadModel", "takeFrom", "(LAlwaysAheadModel;)V"⟩, 40)]
theorem lw_r3 : ∀ q ∈ lw_privs_3, lw_okq q := List.forall_mem_cons.mpr ⟨lw_p32, List.forall_mem_cons.mpr ⟨lw_p33, List.forall_mem_cons.mpr ⟨lw_p34, List.forall_mem_cons.mpr ⟨lw_p35, List.forall_mem_cons.mpr ⟨lw_p36, List.forall_mem_cons.mpr ⟨lw_p37, List.forall_mem_cons.mpr ⟨lw_p38, List.forall_mem_cons.mpr ⟨lw_p39, List.forall_mem_cons.mpr ⟨lw_p40, List.forall_mem_cons.mpr ⟨lw_p41, List.forall_mem_cons.mpr ⟨lw_p42, List.forall_mem_cons.mpr ⟨lw_p43, List.forall_mem_cons.mpr ⟨lw_p44, List.forall_mem_cons.mpr ⟨lw_p45, List.forall_mem_cons.mpr ⟨lw_p46, List.forall_mem_cons.mpr ⟨lw_p47, fun _ h => absurd h List.not_mem_nil⟩⟩⟩⟩⟩⟩⟩⟩⟩⟩⟩⟩⟩⟩⟩⟩
theorem lw_p48 : lw_okq (⟨"AlwaysAheadModel", "readAll", "()Z"⟩, 40) := ⟨⟨by decide +kernel, by decide +kernel⟩, List.mem_of_getElem? (i := 856) (by decide +kernel), List.mem_of_getElem? (i := 1140) (by decide +kernel), List.mem_of_getElem? (i := 1141) (by decide +kernel)⟩
theorem lw_p49 : lw_okq (⟨"AlwaysAheadModel", "look", "()V"⟩, 40) := ⟨⟨by decide +kernel, by decide +kernel⟩, List.mem_of_getElem? (i := 856) (by decide +kernel), List.mem_of_getElem? (i := 1144) (by decide +kernel), List.mem_of_getElem? (i := 1145) (by decide +kernel)⟩
theorem lw_p50 : lw_okq (⟨"AlwaysAheadModel", "statement", "()Z"⟩, 40) := ⟨⟨by decide +kernel, by decide +kernel⟩, List.mem_of_getElem? (i := 856) (by decide +kernel), List.mem_of_getElem? (i := 1155) (by decide +kernel), List.mem_of_getElem? (i := 1156) (by decide +kernel)⟩
theorem lw_p51 : lw_okq (⟨"AlwaysAheadModel", "isWord", "(Ljava/lang/String;)Z"⟩, 40) := ⟨⟨by decide +kernel, by decide +kernel⟩, List.mem_of_getElem? (i := 856) (by decide +kernel), List.mem_of_getElem? (i := 1160) (by decide +kernel), List.mem_of_getElem? (i := 1161) (by decide +kernel)⟩
theorem lw_p52 : lw_okq (⟨"AlwaysAheadModel", "heapTold", "()Z"⟩, 40) := ⟨⟨by decide +kernel, by decide +kernel⟩, List.mem_of_getElem? (i := 856) (by decide +kernel), List.mem_of_getElem? (i := 1166) (by decide +kernel), List.mem_of_getElem? (i := 1167) (by decide +kernel)⟩
theorem lw_p53 : lw_okq (⟨"AlwaysAheadModel", "tells", "(II)Z"⟩, 40) := ⟨⟨by decide +kernel, by decide +kernel⟩, List.mem_of_getElem? (i := 856) (by decide +kernel), List.mem_of_getElem? (i := 1170) (by decide +kernel), List.mem_of_getElem? (i := 1171) (by decide +kernel)⟩
theorem lw_p54 : lw_okq (⟨"AlwaysAheadModel", "number", "(III)Z"⟩, 40) := ⟨⟨by decide +kernel, by decide +kernel⟩, List.mem_of_getElem? (i := 856) (by decide +kernel), List.mem_of_getElem? (i := 1174) (by decide +kernel), List.mem_of_getElem? (i := 1175) (by decide +kernel)⟩
theorem lw_p55 : lw_okq (⟨"AlwaysAheadModel", "wrong", "()Z"⟩, 40) := ⟨⟨by decide +kernel, by decide +kernel⟩, List.mem_of_getElem? (i := 856) (by decide +kernel), List.mem_of_getElem? (i := 1178) (by decide +kernel), List.mem_of_getElem? (i := 1179) (by decide +kernel)⟩
theorem lw_p56 : lw_okq (⟨"AlwaysAheadModel", "swapTold", "()Z"⟩, 40) := ⟨⟨by decide +kernel, by decide +kernel⟩, List.mem_of_getElem? (i := 856) (by decide +kernel), List.mem_of_getElem? (i := 1183) (by decide +kernel), List.mem_of_getElem? (i := 1184) (by decide +kernel)⟩
theorem lw_p57 : lw_okq (⟨"AlwaysAheadModel", "readTold", "()Z"⟩, 40) := ⟨⟨by decide +kernel, by decide +kernel⟩, List.mem_of_getElem? (i := 856) (by decide +kernel), List.mem_of_getElem? (i := 1188) (by decide +kernel), List.mem_of_getElem? (i := 1189) (by decide +kernel)⟩
theorem lw_p58 : lw_okq (⟨"AlwaysAheadModel", "isThere", "(Z)Z"⟩, 40) := ⟨⟨by decide +kernel, by decide +kernel⟩, List.mem_of_getElem? (i := 856) (by decide +kernel), List.mem_of_getElem? (i := 1192) (by decide +kernel), List.mem_of_getElem? (i := 1193) (by decide +kernel)⟩
theorem lw_p59 : lw_okq (⟨"AlwaysAheadModel", "leftNow", "(Z)I"⟩, 40) := ⟨⟨by decide +kernel, by decide +kernel⟩, List.mem_of_getElem? (i := 856) (by decide +kernel), List.mem_of_getElem? (i := 1196) (by decide +kernel), List.mem_of_getElem? (i := 1197) (by decide +kernel)⟩
theorem lw_p60 : lw_okq (⟨"AlwaysAheadModel", "heapAt", "(I)I"⟩, 40) := ⟨⟨by decide +kernel, by decide +kernel⟩, List.mem_of_getElem? (i := 856) (by decide +kernel), List.mem_of_getElem? (i := 1200) (by decide +kernel), List.mem_of_getElem? (i := 1201) (by decide +kernel)⟩
theorem lw_p61 : lw_okq (⟨"AlwaysAheadModel", "startOf", "(I)I"⟩, 40) := ⟨⟨by decide +kernel, by decide +kernel⟩, List.mem_of_getElem? (i := 856) (by decide +kernel), List.mem_of_getElem? (i := 1204) (by decide +kernel), List.mem_of_getElem? (i := 1205) (by decide +kernel)⟩
theorem lw_p62 : lw_okq (⟨"AlwaysAheadModel", "waysOf", "()J"⟩, 40) := ⟨⟨by decide +kernel, by decide +kernel⟩, List.mem_of_getElem? (i := 856) (by decide +kernel), List.mem_of_getElem? (i := 1227) (by decide +kernel), List.mem_of_getElem? (i := 1228) (by decide +kernel)⟩
theorem lw_p63 : lw_okq (⟨"AlwaysAheadModel", "seeAll", "()V"⟩, 40) := ⟨⟨by decide +kernel, by decide +kernel⟩, List.mem_of_getElem? (i := 856) (by decide +kernel), List.mem_of_getElem? (i := 1231) (by decide +kernel), List.mem_of_getElem? (i := 1232) (by decide +kernel)⟩
def lw_privs_4 : List (MethodName × Nat) := [(⟨"AlwaysAheadModel", "readAll", "()Z"⟩, 40), (⟨"AlwaysAheadModel", "look", "()V"⟩, 40), (⟨"AlwaysAheadModel", "statement", "()Z"⟩, 40), (⟨"AlwaysAheadModel", "isWord", "(Ljava/lang/String;)Z"⟩, 40), (⟨"AlwaysAheadModel", "heapTold", "()Z"⟩, 40), (⟨"AlwaysAheadModel", "tells", "(II)Z"⟩, 40), (⟨"AlwaysAheadModel", "number", "(III)Z"⟩, 40), (⟨"AlwaysAheadModel", "wrong", "()Z"⟩, 40), (⟨"AlwaysAheadModel", "swapTold", "()Z"⟩, 40), (⟨"AlwaysAheadModel", "readTold", "()Z"⟩, 40), (⟨"AlwaysAheadModel", "isThere", "(Z)Z"⟩, 40), (⟨"AlwaysAheadModel", "leftNow", "(Z)I"⟩, 40), (⟨"AlwaysAheadModel", "heapAt", "(I)I"⟩, 40), (⟨"AlwaysAheadModel", "startOf", "(I)I"⟩, 40), (⟨"AlwaysAheadModel", "waysOf", "()J"⟩, 40), (⟨"AlwaysAheadModel", "seeAll", "()V"⟩, 40)]
theorem lw_r4 : ∀ q ∈ lw_privs_4, lw_okq q := List.forall_mem_cons.mpr ⟨lw_p48, List.forall_mem_cons.mpr ⟨lw_p49, List.forall_mem_cons.mpr ⟨lw_p50, List.forall_mem_cons.mpr ⟨lw_p51, List.forall_mem_cons.mpr ⟨lw_p52, List.forall_mem_cons.mpr ⟨lw_p53, List.forall_mem_cons.mpr ⟨lw_p54, List.forall_mem_cons.mpr ⟨lw_p55, List.forall_mem_cons.mpr ⟨lw_p56, List.forall_mem_cons.mpr ⟨lw_p57, List.forall_mem_cons.mpr ⟨lw_p58, List.forall_mem_cons.mpr ⟨lw_p59, List.forall_mem_cons.mpr ⟨lw_p60, List.forall_mem_cons.mpr ⟨lw_p61, List.forall_mem_cons.mpr ⟨lw_p62, List.forall_mem_cons.mpr ⟨lw_p63, fun _ h => absurd h List.not_mem_nil⟩⟩⟩⟩⟩⟩⟩⟩⟩⟩⟩⟩⟩⟩⟩⟩
theorem lw_p64 : lw_okq (⟨"AlwaysAheadModel", "isFit", "(II)Z"⟩, 40) := ⟨⟨by decide +kernel, by decide +kernel⟩, List.mem_of_getElem? (i := 856) (by decide +kernel), List.mem_of_getElem? (i := 1235) (by decide +kernel), List.mem_of_getElem? (i := 1236) (by decide +kernel)⟩
theorem lw_p65 : lw_okq (⟨"AlwaysAheadModel", "readA", "(I)I"⟩, 40) := ⟨⟨by decide +kernel, by decide +kernel⟩, List.mem_of_getElem? (i := 856) (by decide +kernel), List.mem_of_getElem? (i := 1239) (by decide +kernel), List.mem_of_getElem? (i := 1240) (by decide +kernel)⟩
theorem lw_p66 : lw_okq (⟨"AlwaysAheadModel", "holds", "(III)Z"⟩, 40) := ⟨⟨by decide +kernel, by decide +kernel⟩, List.mem_of_getElem? (i := 856) (by decide +kernel), List.mem_of_getElem? (i := 1243) (by decide +kernel), List.mem_of_getElem? (i := 1244) (by decide +kernel)⟩
theorem lw_p67 : lw_okq (⟨"AlwaysAheadModel", "countFits", "(II)J"⟩, 40) := ⟨⟨by decide +kernel, by decide +kernel⟩, List.mem_of_getElem? (i := 856) (by decide +kernel), List.mem_of_getElem? (i := 1267) (by decide +kernel), List.mem_of_getElem? (i := 1268) (by decide +kernel)⟩
theorem lw_p68 : lw_okq (⟨"AlwaysAheadModel", "countMoments", "(Z)V"⟩, 40) := ⟨⟨by decide +kernel, by decide +kernel⟩, List.mem_of_getElem? (i := 856) (by decide +kernel), List.mem_of_getElem? (i := 1279) (by decide +kernel), List.mem_of_getElem? (i := 1280) (by decide +kernel)⟩
theorem lw_p69 : lw_okq (⟨"AlwaysAheadModel", "levels", "(I)J"⟩, 40) := ⟨⟨by decide +kernel, by decide +kernel⟩, List.mem_of_getElem? (i := 856) (by decide +kernel), List.mem_of_getElem? (i := 1283) (by decide +kernel), List.mem_of_getElem? (i := 1284) (by decide +kernel)⟩
theorem lw_p70 : lw_okq (⟨"AlwaysAheadModel", "findSure", "()V"⟩, 40) := ⟨⟨by decide +kernel, by decide +kernel⟩, List.mem_of_getElem? (i := 856) (by decide +kernel), List.mem_of_getElem? (i := 1299) (by decide +kernel), List.mem_of_getElem? (i := 1300) (by decide +kernel)⟩
theorem lw_p71 : lw_okq (⟨"AlwaysAheadModel", "through", "(II)J"⟩, 40) := ⟨⟨by decide +kernel, by decide +kernel⟩, List.mem_of_getElem? (i := 856) (by decide +kernel), List.mem_of_getElem? (i := 1307) (by decide +kernel), List.mem_of_getElem? (i := 1308) (by decide +kernel)⟩
theorem lw_p72 : lw_okq (⟨"AlwaysAheadModel", "spentNow", "()J"⟩, 40) := ⟨⟨by decide +kernel, by decide +kernel⟩, List.mem_of_getElem? (i := 856) (by decide +kernel), List.mem_of_getElem? (i := 1315) (by decide +kernel), List.mem_of_getElem? (i := 1316) (by decide +kernel)⟩
theorem lw_p73 : lw_okq (⟨"AlwaysAheadModel", "noRoom", "(I)I"⟩, 40) := ⟨⟨by decide +kernel, by decide +kernel⟩, List.mem_of_getElem? (i := 856) (by decide +kernel), List.mem_of_getElem? (i := 1348) (by decide +kernel), List.mem_of_getElem? (i := 1349) (by decide +kernel)⟩
theorem lw_p74 : lw_okq (⟨"AlwaysAheadModel", "noWhole", "(I)I"⟩, 40) := ⟨⟨by decide +kernel, by decide +kernel⟩, List.mem_of_getElem? (i := 856) (by decide +kernel), List.mem_of_getElem? (i := 1356) (by decide +kernel), List.mem_of_getElem? (i := 1357) (by decide +kernel)⟩
theorem lw_p75 : lw_okq (⟨"AlwaysAheadModel", "ofTold", "(II)I"⟩, 40) := ⟨⟨by decide +kernel, by decide +kernel⟩, List.mem_of_getElem? (i := 856) (by decide +kernel), List.mem_of_getElem? (i := 1360) (by decide +kernel), List.mem_of_getElem? (i := 1361) (by decide +kernel)⟩
theorem lw_p76 : lw_okq (⟨"AlwaysAheadModel", "seek", "(IIZ)V"⟩, 40) := ⟨⟨by decide +kernel, by decide +kernel⟩, List.mem_of_getElem? (i := 856) (by decide +kernel), List.mem_of_getElem? (i := 1372) (by decide +kernel), List.mem_of_getElem? (i := 1373) (by decide +kernel)⟩
theorem lw_p77 : lw_okq (⟨"AlwaysAheadModel", "noBooks", "(II)I"⟩, 40) := ⟨⟨by decide +kernel, by decide +kernel⟩, List.mem_of_getElem? (i := 856) (by decide +kernel), List.mem_of_getElem? (i := 1385) (by decide +kernel), List.mem_of_getElem? (i := 1386) (by decide +kernel)⟩
theorem lw_p78 : lw_okq (⟨"AlwaysAheadModel", "unlikeAt", "(II)I"⟩, 40) := ⟨⟨by decide +kernel, by decide +kernel⟩, List.mem_of_getElem? (i := 856) (by decide +kernel), List.mem_of_getElem? (i := 1389) (by decide +kernel), List.mem_of_getElem? (i := 1390) (by decide +kernel)⟩
theorem lw_p79 : lw_okq (⟨"AlwaysAheadModel", "drawOne", "()I"⟩, 40) := ⟨⟨by decide +kernel, by decide +kernel⟩, List.mem_of_getElem? (i := 856) (by decide +kernel), List.mem_of_getElem? (i := 1401) (by decide +kernel), List.mem_of_getElem? (i := 1402) (by decide +kernel)⟩
def lw_privs_5 : List (MethodName × Nat) := [(⟨"AlwaysAheadModel", "isFit", "(II)Z"⟩, 40), (⟨"AlwaysAheadModel", "readA", "(I)I"⟩, 40), (⟨"AlwaysAheadModel", "holds", "(III)Z"⟩, 40), (⟨"AlwaysAheadModel", "countFits", "(II)J"⟩, 40), (⟨"AlwaysAheadModel", "countMoments", "(Z)V"⟩, 40), (⟨"AlwaysAheadModel", "levels", "(I)J"⟩, 40), (⟨"AlwaysAheadModel", "findSure", "()V"⟩, 40), (⟨"AlwaysAheadModel", "through", "(II)J"⟩, 40), (⟨"AlwaysAheadModel", "spentNow", "()J"⟩, 40), (⟨"AlwaysAheadModel", "noRoom", "(I)I"⟩, 40), (⟨"AlwaysAheadModel", "noWhole", "(I)I"⟩, 40), (⟨"AlwaysAheadModel", "ofTold", "(II)I"⟩, 40), (⟨"AlwaysAheadModel", "seek", "(IIZ)V"⟩, 40), (⟨"AlwaysAheadModel", "noBooks", "(II)I"⟩, 40), (⟨"AlwaysAheadModel", "unlikeAt", "(II)I"⟩, 40), (⟨"AlwaysAheadModel", "drawOne", "()I"⟩, 40)]
theorem lw_r5 : ∀ q ∈ lw_privs_5, lw_okq q := List.forall_mem_cons.mpr ⟨lw_p64, List.forall_mem_cons.mpr ⟨lw_p65, List.forall_mem_cons.mpr ⟨lw_p66, List.forall_mem_cons.mpr ⟨lw_p67, List.forall_mem_cons.mpr ⟨lw_p68, List.forall_mem_cons.mpr ⟨lw_p69, List.forall_mem_cons.mpr ⟨lw_p70, List.forall_mem_cons.mpr ⟨lw_p71, List.forall_mem_cons.mpr ⟨lw_p72, List.forall_mem_cons.mpr ⟨lw_p73, List.forall_mem_cons.mpr ⟨lw_p74, List.forall_mem_cons.mpr ⟨lw_p75, List.forall_mem_cons.mpr ⟨lw_p76, List.forall_mem_cons.mpr ⟨lw_p77, List.forall_mem_cons.mpr ⟨lw_p78, List.forall_mem_cons.mpr ⟨lw_p79, fun _ h => absurd h List.not_mem_nil⟩⟩⟩⟩⟩⟩⟩⟩⟩⟩⟩⟩⟩⟩⟩⟩
theorem lw_p80 : lw_okq (⟨"AlwaysAheadModel", "below", "(I)I"⟩, 40) := ⟨⟨by decide +kernel, by decide +kernel⟩, List.mem_of_getElem? (i := 856) (by decide +kernel), List.mem_of_getElem? (i := 1405) (by decide +kernel), List.mem_of_getElem? (i := 1406) (by decide +kernel)⟩
def lw_privs_6 : List (MethodName × Nat) := [(⟨"AlwaysAheadModel", "below", "(I)I"⟩, 40)]
theorem lw_r6 : ∀ q ∈ lw_privs_6, lw_okq q := List.forall_mem_cons.mpr ⟨lw_p80, fun _ h => absurd h List.not_mem_nil⟩
def lw_privs : List (MethodName × Nat) := lw_privs_1 ++ (lw_privs_2 ++ (lw_privs_3 ++ (lw_privs_4 ++ (lw_privs_5 ++ (lw_privs_6)))))
def lw_tbl : List Cond := k2_sels lw_privs ++ tables_1
theorem lw_privs_ok : ∀ q ∈ lw_privs, lw_okq q := by
  show ∀ q ∈ lw_privs_1 ++ (lw_privs_2 ++ (lw_privs_3 ++ (lw_privs_4 ++ (lw_privs_5 ++ (lw_privs_6))))), lw_okq q
  exact List.forall_mem_append.mpr ⟨lw_r1, List.forall_mem_append.mpr ⟨lw_r2, List.forall_mem_append.mpr ⟨lw_r3, List.forall_mem_append.mpr ⟨lw_r4, List.forall_mem_append.mpr ⟨lw_r5, lw_r6⟩⟩⟩⟩⟩

def RX0 : String := "AlwaysAhead$Cells"
def TX0 : u_T := fun k => match k with
  | 0 => ("AlwaysAhead$Cells", "n", "I", false)
  | 1 => ("AlwaysAhead$Cells", "aAll", "I", false)
  | 2 => ("AlwaysAhead$Cells", "tally", "[I", true)
  | 3 => ("AlwaysAhead$Cells", "open", "[I", true)
  | 4 => ("AlwaysAhead$Cells", "marked", "[I", true)
  | 5 => ("AlwaysAhead$Cells", "counts", "[I", true)
  | 6 => ("AlwaysAhead$Cells", "sums", "[J", true)
  | _ => ("AlwaysAhead$Cells", "layers", "[I", true)
def tyX0 : Nat → FieldType := fun k => match k with
  | 0 => .int
  | 1 => .int
  | 2 => .array .int
  | 3 => .array .int
  | 4 => .array .int
  | 5 => .array .int
  | 6 => .array .long
  | _ => .array .int
abbrev wsX00 : List Cond := u_ws RX0 TX0 8
theorem nmX0 : ∀ a, a < 8 → ∀ b, b < 8 → a ≠ b → (TX0 a).2.1 ≠ (TX0 b).2.1 := by decide +kernel
theorem tyX0_ok : ∀ k, k < 8 → parseFieldDescriptor (TX0 k).2.2.1 = some (tyX0 k) := by decide +kernel
abbrev cX0_init : ByteArray := prog_2_method_1_code
def yX0_init : MethodName := ⟨RX0, "<init>", "()V"⟩
abbrev cX0_layHeaps : ByteArray := prog_2_method_2_code
def yX0_layHeaps : MethodName := ⟨RX0, "layHeaps", "(LAlwaysAhead$Drum;[I)V"⟩
abbrev cX0_layShaken : ByteArray := prog_2_method_3_code
def yX0_layShaken : MethodName := ⟨RX0, "layShaken", "(LAlwaysAhead$Drum;)V"⟩
abbrev cX0_layFitting : ByteArray := prog_2_method_4_code
def yX0_layFitting : MethodName := ⟨RX0, "layFitting", "(LAlwaysAhead$Drum;)V"⟩
abbrev cX0_layNothing : ByteArray := prog_2_method_5_code
def yX0_layNothing : MethodName := ⟨RX0, "layNothing", "()V"⟩
abbrev cX0_layHeap : ByteArray := prog_2_method_6_code
def yX0_layHeap : MethodName := ⟨RX0, "layHeap", "(II)V"⟩
abbrev cX0_keepFact : ByteArray := prog_2_method_7_code
def yX0_keepFact : MethodName := ⟨RX0, "keepFact", "(III)V"⟩
abbrev cX0_keepAt : ByteArray := prog_2_method_8_code
def yX0_keepAt : MethodName := ⟨RX0, "keepAt", "(II)V"⟩
abbrev cX0_keepAhead : ByteArray := prog_2_method_9_code
def yX0_keepAhead : MethodName := ⟨RX0, "keepAhead", "(III)V"⟩
abbrev cX0_keepNotBehind : ByteArray := prog_2_method_10_code
def yX0_keepNotBehind : MethodName := ⟨RX0, "keepNotBehind", "(II)V"⟩
abbrev cX0_keepNotAbove : ByteArray := prog_2_method_11_code
def yX0_keepNotAbove : MethodName := ⟨RX0, "keepNotAbove", "(I)V"⟩
abbrev cX0_keepLevel : ByteArray := prog_2_method_12_code
def yX0_keepLevel : MethodName := ⟨RX0, "keepLevel", "(I)V"⟩
abbrev cX0_closeLevel : ByteArray := prog_2_method_13_code
def yX0_closeLevel : MethodName := ⟨RX0, "closeLevel", "(II)V"⟩
abbrev cX0_closeAhead : ByteArray := prog_2_method_14_code
def yX0_closeAhead : MethodName := ⟨RX0, "closeAhead", "(I)V"⟩
abbrev cX0_keepAheadByTwos : ByteArray := prog_2_method_15_code
def yX0_keepAheadByTwos : MethodName := ⟨RX0, "keepAheadByTwos", "(I)V"⟩
abbrev cX0_keepAheadFromBehind : ByteArray := prog_2_method_16_code
def yX0_keepAheadFromBehind : MethodName := ⟨RX0, "keepAheadFromBehind", "(I)V"⟩
abbrev cX0_keepAheadUntilSure : ByteArray := prog_2_method_17_code
def yX0_keepAheadUntilSure : MethodName := ⟨RX0, "keepAheadUntilSure", "(I)V"⟩
abbrev cX0_markAhead : ByteArray := prog_2_method_18_code
def yX0_markAhead : MethodName := ⟨RX0, "markAhead", "()V"⟩
abbrev cX0_markLevel : ByteArray := prog_2_method_19_code
def yX0_markLevel : MethodName := ⟨RX0, "markLevel", "()V"⟩
abbrev cX0_markUnsure : ByteArray := prog_2_method_20_code
def yX0_markUnsure : MethodName := ⟨RX0, "markUnsure", "()V"⟩
abbrev cX0_isOpen : ByteArray := prog_2_method_21_code
def yX0_isOpen : MethodName := ⟨RX0, "isOpen", "(II)Z"⟩
abbrev cX0_isMarked : ByteArray := prog_2_method_22_code
def yX0_isMarked : MethodName := ⟨RX0, "isMarked", "(II)Z"⟩
abbrev cX0_countRows : ByteArray := prog_2_method_23_code
def yX0_countRows : MethodName := ⟨RX0, "countRows", "()I"⟩
abbrev cX0_sumMarks : ByteArray := prog_2_method_24_code
def yX0_sumMarks : MethodName := ⟨RX0, "sumMarks", "()J"⟩
abbrev cX0_walk : ByteArray := prog_2_method_25_code
def yX0_walk : MethodName := ⟨RX0, "walk", "()V"⟩
abbrev cX0_walkInto : ByteArray := prog_2_method_26_code
def yX0_walkInto : MethodName := ⟨RX0, "walkInto", "(II)V"⟩
abbrev cX0_tallyMarks : ByteArray := prog_2_method_27_code
def yX0_tallyMarks : MethodName := ⟨RX0, "tallyMarks", "()V"⟩
abbrev cX0_tallyInto : ByteArray := prog_2_method_28_code
def yX0_tallyInto : MethodName := ⟨RX0, "tallyInto", "(III)V"⟩
abbrev cX0_tallyFrom : ByteArray := prog_2_method_29_code
def yX0_tallyFrom : MethodName := ⟨RX0, "tallyFrom", "(I)I"⟩
abbrev cX0_leastAhead : ByteArray := prog_2_method_30_code
def yX0_leastAhead : MethodName := ⟨RX0, "leastAhead", "(II)I"⟩
abbrev cX0_aheadBits : ByteArray := prog_2_method_31_code
def yX0_aheadBits : MethodName := ⟨RX0, "aheadBits", "(II)I"⟩
abbrev cX0_levelBits : ByteArray := prog_2_method_32_code
def yX0_levelBits : MethodName := ⟨RX0, "levelBits", "(I)I"⟩
abbrev cX0_bits : ByteArray := prog_2_method_33_code
def yX0_bits : MethodName := ⟨RX0, "bits", "(II)I"⟩
def RX1 : String := "AlwaysAhead$Drum"
def TX1 : u_T := fun k => match k with
  | 0 => ("AlwaysAhead$Drum", "heaps", "I", false)
  | 1 => ("AlwaysAhead$Drum", "slips", "I", false)
  | 2 => ("AlwaysAhead$Drum", "aAll", "I", false)
  | 3 => ("AlwaysAhead$Drum", "aSlips", "[I", true)
  | 4 => ("AlwaysAhead$Drum", "bSlips", "[I", true)
  | 5 => ("AlwaysAhead$Drum", "order", "[I", true)
  | 6 => ("AlwaysAhead$Drum", "reads", "I", false)
  | 7 => ("AlwaysAhead$Drum", "aRead", "I", false)
  | 8 => ("AlwaysAhead$Drum", "slipsRead", "[I", true)
  | 9 => ("AlwaysAhead$Drum", "facts", "I", false)
  | 10 => ("AlwaysAhead$Drum", "factKind", "[I", true)
  | 11 => ("AlwaysAhead$Drum", "factT", "[I", true)
  | 12 => ("AlwaysAhead$Drum", "factV", "[I", true)
  | _ => ("AlwaysAhead$Drum", "seed", "I", false)
def tyX1 : Nat → FieldType := fun k => match k with
  | 0 => .int
  | 1 => .int
  | 2 => .int
  | 3 => .array .int
  | 4 => .array .int
  | 5 => .array .int
  | 6 => .int
  | 7 => .int
  | 8 => .array .int
  | 9 => .int
  | 10 => .array .int
  | 11 => .array .int
  | 12 => .array .int
  | _ => .int
abbrev wsX10 : List Cond := u_ws RX1 TX1 14
theorem nmX1 : ∀ a, a < 14 → ∀ b, b < 14 → a ≠ b → (TX1 a).2.1 ≠ (TX1 b).2.1 := by decide +kernel
theorem tyX1_ok : ∀ k, k < 14 → parseFieldDescriptor (TX1 k).2.2.1 = some (tyX1 k) := by decide +kernel
abbrev cX1_init : ByteArray := prog_3_method_1_code
def yX1_init : MethodName := ⟨RX1, "<init>", "()V"⟩
abbrev cX1_hasRoom : ByteArray := prog_3_method_2_code
def yX1_hasRoom : MethodName := ⟨RX1, "hasRoom", "(I)Z"⟩
abbrev cX1_layIn : ByteArray := prog_3_method_3_code
def yX1_layIn : MethodName := ⟨RX1, "layIn", "(II)I"⟩
abbrev cX1_remember : ByteArray := prog_3_method_4_code
def yX1_remember : MethodName := ⟨RX1, "remember", "(III)I"⟩
abbrev cX1_dropFact : ByteArray := prog_3_method_5_code
def yX1_dropFact : MethodName := ⟨RX1, "dropFact", "(I)I"⟩
abbrev cX1_exchange : ByteArray := prog_3_method_6_code
def yX1_exchange : MethodName := ⟨RX1, "exchange", "(II)V"⟩
abbrev cX1_placeOf : ByteArray := prog_3_method_7_code
def yX1_placeOf : MethodName := ⟨RX1, "placeOf", "(I)I"⟩
abbrev cX1_heapNow : ByteArray := prog_3_method_8_code
def yX1_heapNow : MethodName := ⟨RX1, "heapNow", "()I"⟩
abbrev cX1_leftNow : ByteArray := prog_3_method_9_code
def yX1_leftNow : MethodName := ⟨RX1, "leftNow", "(Z)I"⟩
abbrev cX1_take : ByteArray := prog_3_method_10_code
def yX1_take : MethodName := ⟨RX1, "take", "(Z)Z"⟩
abbrev cX1_takeByDraw : ByteArray := prog_3_method_11_code
def yX1_takeByDraw : MethodName := ⟨RX1, "takeByDraw", "()I"⟩
abbrev cX1_drawBelow : ByteArray := prog_3_method_12_code
def yX1_drawBelow : MethodName := ⟨RX1, "drawBelow", "(I)I"⟩
abbrev cX1_layBack : ByteArray := prog_3_method_13_code
def yX1_layBack : MethodName := ⟨RX1, "layBack", "()V"⟩
abbrev cX1_momentsAhead : ByteArray := prog_3_method_14_code
def yX1_momentsAhead : MethodName := ⟨RX1, "momentsAhead", "()I"⟩
abbrev cX1_takeOver : ByteArray := prog_3_method_15_code
def yX1_takeOver : MethodName := ⟨RX1, "takeOver", "(LAlwaysAhead$Drum;)V"⟩
def RX2 : String := "AlwaysAhead$Shelf"
def TX2 : u_T := fun k => match k with
  | 0 => ("AlwaysAhead$Shelf", "thing", "I", false)
  | 1 => ("AlwaysAhead$Shelf", "size", "I", false)
  | 2 => ("AlwaysAhead$Shelf", "times", "I", false)
  | _ => ("AlwaysAhead$Shelf", "elements", "[J", true)
def tyX2 : Nat → FieldType := fun k => match k with
  | 0 => .int
  | 1 => .int
  | 2 => .int
  | _ => .array .long
abbrev wsX20 : List Cond := u_ws RX2 TX2 4
theorem nmX2 : ∀ a, a < 4 → ∀ b, b < 4 → a ≠ b → (TX2 a).2.1 ≠ (TX2 b).2.1 := by decide +kernel
theorem tyX2_ok : ∀ k, k < 4 → parseFieldDescriptor (TX2 k).2.2.1 = some (tyX2 k) := by decide +kernel
abbrev cX2_init : ByteArray := prog_4_method_1_code
def yX2_init : MethodName := ⟨RX2, "<init>", "()V"⟩
abbrev cX2_becomeRow : ByteArray := prog_4_method_2_code
def yX2_becomeRow : MethodName := ⟨RX2, "becomeRow", "(II)V"⟩
abbrev cX2_becomeDrawing : ByteArray := prog_4_method_3_code
def yX2_becomeDrawing : MethodName := ⟨RX2, "becomeDrawing", "(II)V"⟩
abbrev cX2_isEmpty : ByteArray := prog_4_method_4_code
def yX2_isEmpty : MethodName := ⟨RX2, "isEmpty", "()Z"⟩
abbrev cX2_isRow : ByteArray := prog_4_method_5_code
def yX2_isRow : MethodName := ⟨RX2, "isRow", "()Z"⟩
abbrev cX2_isDrawing : ByteArray := prog_4_method_6_code
def yX2_isDrawing : MethodName := ⟨RX2, "isDrawing", "()Z"⟩
abbrev cX2_kind : ByteArray := prog_4_method_7_code
def yX2_kind : MethodName := ⟨RX2, "kind", "()I"⟩
abbrev cX2_hasElement : ByteArray := prog_4_method_8_code
def yX2_hasElement : MethodName := ⟨RX2, "hasElement", "(I)Z"⟩
abbrev cX2_hasElements : ByteArray := prog_4_method_9_code
def yX2_hasElements : MethodName := ⟨RX2, "hasElements", "(II)Z"⟩
abbrev cX2_put : ByteArray := prog_4_method_10_code
def yX2_put : MethodName := ⟨RX2, "put", "(IJ)V"⟩
abbrev cX2_slipAt : ByteArray := prog_4_method_11_code
def yX2_slipAt : MethodName := ⟨RX2, "slipAt", "(I)I"⟩
def RX3 : String := "AlwaysAhead$Tape"
def TX3 : u_T := fun k => match k with
  | 0 => ("AlwaysAhead$Tape", "size", "I", false)
  | 1 => ("AlwaysAhead$Tape", "tokenFrom", "I", false)
  | 2 => ("AlwaysAhead$Tape", "bytes", "[I", true)
  | 3 => ("AlwaysAhead$Tape", "tokenTo", "I", false)
  | 4 => ("AlwaysAhead$Tape", "token", "I", false)
  | _ => ("AlwaysAhead$Tape", "value", "I", false)
def tyX3 : Nat → FieldType := fun k => match k with
  | 0 => .int
  | 1 => .int
  | 2 => .array .int
  | 3 => .int
  | 4 => .int
  | _ => .int
abbrev wsX30 : List Cond := u_ws RX3 TX3 6
theorem nmX3 : ∀ a, a < 6 → ∀ b, b < 6 → a ≠ b → (TX3 a).2.1 ≠ (TX3 b).2.1 := by decide +kernel
theorem tyX3_ok : ∀ k, k < 6 → parseFieldDescriptor (TX3 k).2.2.1 = some (tyX3 k) := by decide +kernel
abbrev cX3_init : ByteArray := prog_5_method_1_code
def yX3_init : MethodName := ⟨RX3, "<init>", "()V"⟩
abbrev cX3_append : ByteArray := prog_5_method_2_code
def yX3_append : MethodName := ⟨RX3, "append", "(I)I"⟩
abbrev cX3_readInto : ByteArray := prog_5_method_3_code
def yX3_readInto : MethodName := ⟨RX3, "readInto", "(LAlwaysAhead$Drum;)I"⟩
abbrev cX3_statement : ByteArray := prog_5_method_4_code
def yX3_statement : MethodName := ⟨RX3, "statement", "(LAlwaysAhead$Drum;)Z"⟩
abbrev cX3_heapStatement : ByteArray := prog_5_method_5_code
def yX3_heapStatement : MethodName := ⟨RX3, "heapStatement", "(LAlwaysAhead$Drum;)Z"⟩
abbrev cX3_factStatement : ByteArray := prog_5_method_6_code
def yX3_factStatement : MethodName := ⟨RX3, "factStatement", "(LAlwaysAhead$Drum;)Z"⟩
abbrev cX3_readStatement : ByteArray := prog_5_method_7_code
def yX3_readStatement : MethodName := ⟨RX3, "readStatement", "(LAlwaysAhead$Drum;)Z"⟩
abbrev cX3_swapStatement : ByteArray := prog_5_method_8_code
def yX3_swapStatement : MethodName := ⟨RX3, "swapStatement", "(LAlwaysAhead$Drum;)Z"⟩
abbrev cX3_isWord : ByteArray := prog_5_method_9_code
def yX3_isWord : MethodName := ⟨RX3, "isWord", "(Ljava/lang/String;)Z"⟩
abbrev cX3_isNumberNext : ByteArray := prog_5_method_10_code
def yX3_isNumberNext : MethodName := ⟨RX3, "isNumberNext", "(I)Z"⟩
abbrev cX3_nextToken : ByteArray := prog_5_method_11_code
def yX3_nextToken : MethodName := ⟨RX3, "nextToken", "()V"⟩
abbrev cX3_tokenOf : ByteArray := prog_5_method_12_code
def yX3_tokenOf : MethodName := ⟨RX3, "tokenOf", "(I)I"⟩
def RX4 : String := "AlwaysAhead"
def TX4 : u_T := fun k => match k with
  | 0 => ("AlwaysAhead", "now", "LAlwaysAhead$Drum;", true)
  | 1 => ("AlwaysAhead", "kept", "LAlwaysAhead$Drum;", true)
  | 2 => ("AlwaysAhead", "before", "LAlwaysAhead$Drum;", true)
  | 3 => ("AlwaysAhead", "cells", "LAlwaysAhead$Cells;", true)
  | 4 => ("AlwaysAhead", "tape", "LAlwaysAhead$Tape;", true)
  | 5 => ("AlwaysAhead", "shelves", "[LAlwaysAhead$Shelf;", true)
  | 6 => ("AlwaysAhead", "trial", "[I", true)
  | 7 => ("AlwaysAhead", "refusals", "[I", true)
  | _ => ("AlwaysAhead", "isKept", "Z", false)
def tyX4 : Nat → FieldType := fun k => match k with
  | 0 => .object "AlwaysAhead$Drum"
  | 1 => .object "AlwaysAhead$Drum"
  | 2 => .object "AlwaysAhead$Drum"
  | 3 => .object "AlwaysAhead$Cells"
  | 4 => .object "AlwaysAhead$Tape"
  | 5 => .array (.object "AlwaysAhead$Shelf")
  | 6 => .array .int
  | 7 => .array .int
  | _ => .boolean
abbrev wsX40 : List Cond := u_ws RX4 TX4 9
theorem nmX4 : ∀ a, a < 9 → ∀ b, b < 9 → a ≠ b → (TX4 a).2.1 ≠ (TX4 b).2.1 := by decide +kernel
theorem tyX4_ok : ∀ k, k < 9 → parseFieldDescriptor (TX4 k).2.2.1 = some (tyX4 k) := by decide +kernel
abbrev cX4_init : ByteArray := prog_1_method_1_code
def yX4_init : MethodName := ⟨RX4, "<init>", "()V"⟩
abbrev cX4_row : ByteArray := prog_1_method_2_code
def yX4_row : MethodName := ⟨RX4, "row", "(III)I"⟩
abbrev cX4_set : ByteArray := prog_1_method_3_code
def yX4_set : MethodName := ⟨RX4, "set", "(IIJ)I"⟩
abbrev cX4_copy : ByteArray := prog_1_method_4_code
def yX4_copy : MethodName := ⟨RX4, "copy", "(IIIII)I"⟩
abbrev cX4_element : ByteArray := prog_1_method_5_code
def yX4_element : MethodName := ⟨RX4, "element", "(II)J"⟩
abbrev cX4_holds : ByteArray := prog_1_method_6_code
def yX4_holds : MethodName := ⟨RX4, "holds", "(I)I"⟩
abbrev cX4_drawing : ByteArray := prog_1_method_7_code
def yX4_drawing : MethodName := ⟨RX4, "drawing", "(III)I"⟩
abbrev cX4_says : ByteArray := prog_1_method_8_code
def yX4_says : MethodName := ⟨RX4, "says", "(II)I"⟩
abbrev cX4_head : ByteArray := prog_1_method_9_code
def yX4_head : MethodName := ⟨RX4, "head", "()I"⟩
abbrev cX4_heap : ByteArray := prog_1_method_10_code
def yX4_heap : MethodName := ⟨RX4, "heap", "(II)I"⟩
abbrev cX4_fact : ByteArray := prog_1_method_11_code
def yX4_fact : MethodName := ⟨RX4, "fact", "(III)I"⟩
abbrev cX4_forget : ByteArray := prog_1_method_12_code
def yX4_forget : MethodName := ⟨RX4, "forget", "(I)I"⟩
abbrev cX4_swap : ByteArray := prog_1_method_13_code
def yX4_swap : MethodName := ⟨RX4, "swap", "(II)I"⟩
abbrev cX4_feed : ByteArray := prog_1_method_14_code
def yX4_feed : MethodName := ⟨RX4, "feed", "(I)I"⟩
abbrev cX4_wipe : ByteArray := prog_1_method_15_code
def yX4_wipe : MethodName := ⟨RX4, "wipe", "()I"⟩
abbrev cX4_drum : ByteArray := prog_1_method_16_code
def yX4_drum : MethodName := ⟨RX4, "drum", "()I"⟩
abbrev cX4_heapOf : ByteArray := prog_1_method_17_code
def yX4_heapOf : MethodName := ⟨RX4, "heapOf", "(II)I"⟩
abbrev cX4_factOf : ByteArray := prog_1_method_18_code
def yX4_factOf : MethodName := ⟨RX4, "factOf", "(II)I"⟩
abbrev cX4_read : ByteArray := prog_1_method_19_code
def yX4_read : MethodName := ⟨RX4, "read", "(Z)I"⟩
abbrev cX4_slip : ByteArray := prog_1_method_20_code
def yX4_slip : MethodName := ⟨RX4, "slip", "(I)I"⟩
abbrev cX4_again : ByteArray := prog_1_method_21_code
def yX4_again : MethodName := ⟨RX4, "again", "()I"⟩
abbrev cX4_lead : ByteArray := prog_1_method_22_code
def yX4_lead : MethodName := ⟨RX4, "lead", "()I"⟩
abbrev cX4_isSure : ByteArray := prog_1_method_23_code
def yX4_isSure : MethodName := ⟨RX4, "isSure", "()I"⟩
abbrev cX4_rows : ByteArray := prog_1_method_24_code
def yX4_rows : MethodName := ⟨RX4, "rows", "()I"⟩
abbrev cX4_ways : ByteArray := prog_1_method_25_code
def yX4_ways : MethodName := ⟨RX4, "ways", "()I"⟩
abbrev cX4_ahead : ByteArray := prog_1_method_26_code
def yX4_ahead : MethodName := ⟨RX4, "ahead", "(I)I"⟩
abbrev cX4_never : ByteArray := prog_1_method_27_code
def yX4_never : MethodName := ⟨RX4, "never", "()I"⟩
abbrev cX4_level : ByteArray := prog_1_method_28_code
def yX4_level : MethodName := ⟨RX4, "level", "(I)I"⟩
abbrev cX4_last : ByteArray := prog_1_method_29_code
def yX4_last : MethodName := ⟨RX4, "last", "(I)I"⟩
abbrev cX4_greatest : ByteArray := prog_1_method_30_code
def yX4_greatest : MethodName := ⟨RX4, "greatest", "(I)I"⟩
abbrev cX4_sure : ByteArray := prog_1_method_31_code
def yX4_sure : MethodName := ⟨RX4, "sure", "(I)I"⟩
abbrev cX4_soFar : ByteArray := prog_1_method_32_code
def yX4_soFar : MethodName := ⟨RX4, "soFar", "(II)I"⟩
abbrev cX4_spent : ByteArray := prog_1_method_33_code
def yX4_spent : MethodName := ⟨RX4, "spent", "()J"⟩
abbrev cX4_mean : ByteArray := prog_1_method_34_code
def yX4_mean : MethodName := ⟨RX4, "mean", "()J"⟩
abbrev cX4_price : ByteArray := prog_1_method_35_code
def yX4_price : MethodName := ⟨RX4, "price", "(I)I"⟩
abbrev cX4_often : ByteArray := prog_1_method_36_code
def yX4_often : MethodName := ⟨RX4, "often", "()I"⟩
abbrev cX4_half : ByteArray := prog_1_method_37_code
def yX4_half : MethodName := ⟨RX4, "half", "()I"⟩
abbrev cX4_judge : ByteArray := prog_1_method_38_code
def yX4_judge : MethodName := ⟨RX4, "judge", "(I)I"⟩
abbrev cX4_told : ByteArray := prog_1_method_39_code
def yX4_told : MethodName := ⟨RX4, "told", "(II)I"⟩
abbrev cX4_luck : ByteArray := prog_1_method_40_code
def yX4_luck : MethodName := ⟨RX4, "luck", "(I)I"⟩
abbrev cX4_order : ByteArray := prog_1_method_41_code
def yX4_order : MethodName := ⟨RX4, "order", "(ZI)I"⟩
abbrev cX4_lost : ByteArray := prog_1_method_42_code
def yX4_lost : MethodName := ⟨RX4, "lost", "(I)I"⟩
abbrev cX4_books : ByteArray := prog_1_method_43_code
def yX4_books : MethodName := ⟨RX4, "books", "(II)I"⟩
abbrev cX4_unlike : ByteArray := prog_1_method_44_code
def yX4_unlike : MethodName := ⟨RX4, "unlike", "(II)I"⟩
abbrev cX4_draw : ByteArray := prog_1_method_45_code
def yX4_draw : MethodName := ⟨RX4, "draw", "()I"⟩
abbrev cX4_evening : ByteArray := prog_1_method_46_code
def yX4_evening : MethodName := ⟨RX4, "evening", "()I"⟩
abbrev cX4_seed : ByteArray := prog_1_method_47_code
def yX4_seed : MethodName := ⟨RX4, "seed", "(I)I"⟩
abbrev cX4_image : ByteArray := prog_1_method_48_code
def yX4_image : MethodName := ⟨RX4, "image", "()I"⟩
abbrev cX4_back : ByteArray := prog_1_method_49_code
def yX4_back : MethodName := ⟨RX4, "back", "()I"⟩
abbrev cX4_status : ByteArray := prog_1_method_50_code
def yX4_status : MethodName := ⟨RX4, "status", "(I)I"⟩
abbrev cX4_isWithin : ByteArray := prog_1_method_51_code
def yX4_isWithin : MethodName := ⟨RX4, "isWithin", "(II)Z"⟩
abbrev cX4_isShelf : ByteArray := prog_1_method_52_code
def yX4_isShelf : MethodName := ⟨RX4, "isShelf", "(I)Z"⟩
abbrev cX4_refuse : ByteArray := prog_1_method_53_code
def yX4_refuse : MethodName := ⟨RX4, "refuse", "(I)I"⟩
abbrev cX4_shelvesInUse : ByteArray := prog_1_method_54_code
def yX4_shelvesInUse : MethodName := ⟨RX4, "shelvesInUse", "()I"⟩
abbrev cX4_againstRows : ByteArray := prog_1_method_55_code
def yX4_againstRows : MethodName := ⟨RX4, "againstRows", "(II)I"⟩
abbrev cX4_againstTold : ByteArray := prog_1_method_56_code
def yX4_againstTold : MethodName := ⟨RX4, "againstTold", "(I)I"⟩
abbrev cX4_againstBooks : ByteArray := prog_1_method_57_code
def yX4_againstBooks : MethodName := ⟨RX4, "againstBooks", "(II)I"⟩
abbrev cX4_isUnder : ByteArray := prog_1_method_58_code
def yX4_isUnder : MethodName := ⟨RX4, "isUnder", "(II)Z"⟩
abbrev cX4_saying : ByteArray := prog_1_method_59_code
def yX4_saying : MethodName := ⟨RX4, "saying", "(II)I"⟩
abbrev cX4_sayingOnce : ByteArray := prog_1_method_60_code
def yX4_sayingOnce : MethodName := ⟨RX4, "sayingOnce", "(I)I"⟩
abbrev cX4_fittingAhead : ByteArray := prog_1_method_61_code
def yX4_fittingAhead : MethodName := ⟨RX4, "fittingAhead", "(I)I"⟩
abbrev cX4_fittingNotAbove : ByteArray := prog_1_method_62_code
def yX4_fittingNotAbove : MethodName := ⟨RX4, "fittingNotAbove", "(I)I"⟩
abbrev cX4_tallyLevel : ByteArray := prog_1_method_63_code
def yX4_tallyLevel : MethodName := ⟨RX4, "tallyLevel", "()V"⟩
abbrev cX4_tallySure : ByteArray := prog_1_method_64_code
def yX4_tallySure : MethodName := ⟨RX4, "tallySure", "()V"⟩
abbrev cX4_firstWrong : ByteArray := prog_1_method_65_code
def yX4_firstWrong : MethodName := ⟨RX4, "firstWrong", "(LAlwaysAhead$Shelf;)I"⟩
abbrev cX4_toldOf : ByteArray := prog_1_method_66_code
def yX4_toldOf : MethodName := ⟨RX4, "toldOf", "(LAlwaysAhead$Shelf;I)I"⟩
abbrev cX4_spentBy : ByteArray := prog_1_method_67_code
def yX4_spentBy : MethodName := ⟨RX4, "spentBy", "(I)J"⟩
abbrev cX4_tryOrder : ByteArray := prog_1_method_68_code
def yX4_tryOrder : MethodName := ⟨RX4, "tryOrder", "(I)V"⟩
abbrev cX4_freeHeap : ByteArray := prog_1_method_69_code
def yX4_freeHeap : MethodName := ⟨RX4, "freeHeap", "(II)I"⟩
abbrev cX4_choose : ByteArray := prog_1_method_70_code
def yX4_choose : MethodName := ⟨RX4, "choose", "(II)J"⟩
abbrev cX4_firstUnlike : ByteArray := prog_1_method_71_code
def yX4_firstUnlike : MethodName := ⟨RX4, "firstUnlike", "(LAlwaysAhead$Shelf;LAlwaysAhead$Shelf;)I"⟩
abbrev cX4_agreeing : ByteArray := prog_1_method_72_code
def yX4_agreeing : MethodName := ⟨RX4, "agreeing", "(LAlwaysAhead$Shelf;LAlwaysAhead$Shelf;)I"⟩
def RX5 : String := "AlwaysAheadModel"
def TX5 : u_T := fun k => match k with
  | 0 => ("AlwaysAheadModel", "shelf", "[I", true)
  | 1 => ("AlwaysAheadModel", "rowSort", "[I", true)
  | 2 => ("AlwaysAheadModel", "rowSize", "[I", true)
  | 3 => ("AlwaysAheadModel", "rows", "[[J", true)
  | 4 => ("AlwaysAheadModel", "moved", "[J", true)
  | 5 => ("AlwaysAheadModel", "drawingKind", "[I", true)
  | 6 => ("AlwaysAheadModel", "drawingBy", "[I", true)
  | 7 => ("AlwaysAheadModel", "tape", "[I", true)
  | 8 => ("AlwaysAheadModel", "tapeSize", "I", false)
  | 9 => ("AlwaysAheadModel", "refused", "[I", true)
  | 10 => ("AlwaysAheadModel", "heaps", "I", false)
  | 11 => ("AlwaysAheadModel", "heapA", "[I", true)
  | 12 => ("AlwaysAheadModel", "heapB", "[I", true)
  | 13 => ("AlwaysAheadModel", "order", "[I", true)
  | 14 => ("AlwaysAheadModel", "facts", "I", false)
  | 15 => ("AlwaysAheadModel", "fact", "[[I", true)
  | 16 => ("AlwaysAheadModel", "readMany", "I", false)
  | 17 => ("AlwaysAheadModel", "slip", "[I", true)
  | 18 => ("AlwaysAheadModel", "seed", "I", false)
  | 19 => ("AlwaysAheadModel", "kept", "LAlwaysAheadModel;", false)
  | 20 => ("AlwaysAheadModel", "tried", "LAlwaysAheadModel;", false)
  | 21 => ("AlwaysAheadModel", "at", "I", false)
  | 22 => ("AlwaysAheadModel", "token", "I", false)
  | 23 => ("AlwaysAheadModel", "from", "I", false)
  | 24 => ("AlwaysAheadModel", "figures", "I", false)
  | 25 => ("AlwaysAheadModel", "fault", "I", false)
  | 26 => ("AlwaysAheadModel", "told", "[I", true)
  | 27 => ("AlwaysAheadModel", "statements", "I", false)
  | 28 => ("AlwaysAheadModel", "may", "[[Z", true)
  | 29 => ("AlwaysAheadModel", "n", "I", false)
  | 30 => ("AlwaysAheadModel", "on", "[[J", true)
  | 31 => ("AlwaysAheadModel", "back", "[[J", true)
  | 32 => ("AlwaysAheadModel", "now", "[[J", true)
  | 33 => ("AlwaysAheadModel", "then", "[[J", true)
  | 34 => ("AlwaysAheadModel", "sureAt", "[J", true)
  | 35 => ("AlwaysAheadModel", "turned", "[[Z", true)
  | 36 => ("AlwaysAheadModel", "trying", "[I", true)
  | 37 => ("AlwaysAheadModel", "bestOrder", "[I", true)
  | 38 => ("AlwaysAheadModel", "bestSpent", "J", false)
  | _ => ("AlwaysAheadModel", "isFirst", "Z", false)
def tyX5 : Nat → FieldType := fun k => match k with
  | 0 => .array .int
  | 1 => .array .int
  | 2 => .array .int
  | 3 => .array (.array .long)
  | 4 => .array .long
  | 5 => .array .int
  | 6 => .array .int
  | 7 => .array .int
  | 8 => .int
  | 9 => .array .int
  | 10 => .int
  | 11 => .array .int
  | 12 => .array .int
  | 13 => .array .int
  | 14 => .int
  | 15 => .array (.array .int)
  | 16 => .int
  | 17 => .array .int
  | 18 => .int
  | 19 => .object "AlwaysAheadModel"
  | 20 => .object "AlwaysAheadModel"
  | 21 => .int
  | 22 => .int
  | 23 => .int
  | 24 => .int
  | 25 => .int
  | 26 => .array .int
  | 27 => .int
  | 28 => .array (.array .boolean)
  | 29 => .int
  | 30 => .array (.array .long)
  | 31 => .array (.array .long)
  | 32 => .array (.array .long)
  | 33 => .array (.array .long)
  | 34 => .array .long
  | 35 => .array (.array .boolean)
  | 36 => .array .int
  | 37 => .array .int
  | 38 => .long
  | _ => .boolean
abbrev wsX50 : List Cond := u_ws RX5 TX5 40
theorem nmX5 : ∀ a, a < 40 → ∀ b, b < 40 → a ≠ b → (TX5 a).2.1 ≠ (TX5 b).2.1 := by decide +kernel
theorem tyX5_ok : ∀ k, k < 40 → parseFieldDescriptor (TX5 k).2.2.1 = some (tyX5 k) := by decide +kernel
abbrev cX5_init : ByteArray := prog_7_method_1_code
def yX5_init : MethodName := ⟨RX5, "<init>", "()V"⟩
abbrev cX5_refuse : ByteArray := prog_7_method_2_code
def yX5_refuse : MethodName := ⟨RX5, "refuse", "(I)I"⟩
abbrev cX5_in : ByteArray := prog_7_method_3_code
def yX5_in : MethodName := ⟨RX5, "in", "(JJJ)Z"⟩
abbrev cX5_row : ByteArray := prog_7_method_4_code
def yX5_row : MethodName := ⟨RX5, "row", "(III)I"⟩
abbrev cX5_fit : ByteArray := prog_7_method_5_code
def yX5_fit : MethodName := ⟨RX5, "fit", "(IJ)J"⟩
abbrev cX5_noRow : ByteArray := prog_7_method_6_code
def yX5_noRow : MethodName := ⟨RX5, "noRow", "(I)I"⟩
abbrev cX5_set : ByteArray := prog_7_method_7_code
def yX5_set : MethodName := ⟨RX5, "set", "(IIJ)I"⟩
abbrev cX5_noRows : ByteArray := prog_7_method_8_code
def yX5_noRows : MethodName := ⟨RX5, "noRows", "(IIZ)I"⟩
abbrev cX5_copy : ByteArray := prog_7_method_9_code
def yX5_copy : MethodName := ⟨RX5, "copy", "(IIIII)I"⟩
abbrev cX5_element : ByteArray := prog_7_method_10_code
def yX5_element : MethodName := ⟨RX5, "element", "(II)J"⟩
abbrev cX5_holds : ByteArray := prog_7_method_11_code
def yX5_holds : MethodName := ⟨RX5, "holds", "(I)I"⟩
abbrev cX5_drawing : ByteArray := prog_7_method_12_code
def yX5_drawing : MethodName := ⟨RX5, "drawing", "(III)I"⟩
abbrev cX5_isUnder : ByteArray := prog_7_method_13_code
def yX5_isUnder : MethodName := ⟨RX5, "isUnder", "(II)Z"⟩
abbrev cX5_says : ByteArray := prog_7_method_14_code
def yX5_says : MethodName := ⟨RX5, "says", "(II)I"⟩
abbrev cX5_allA : ByteArray := prog_7_method_15_code
def yX5_allA : MethodName := ⟨RX5, "allA", "()I"⟩
abbrev cX5_all : ByteArray := prog_7_method_16_code
def yX5_all : MethodName := ⟨RX5, "all", "()I"⟩
abbrev cX5_heap : ByteArray := prog_7_method_17_code
def yX5_heap : MethodName := ⟨RX5, "heap", "(II)I"⟩
abbrev cX5_addHeap : ByteArray := prog_7_method_18_code
def yX5_addHeap : MethodName := ⟨RX5, "addHeap", "(II)V"⟩
abbrev cX5_fact : ByteArray := prog_7_method_19_code
def yX5_fact : MethodName := ⟨RX5, "fact", "(III)I"⟩
abbrev cX5_forget : ByteArray := prog_7_method_20_code
def yX5_forget : MethodName := ⟨RX5, "forget", "(I)I"⟩
abbrev cX5_change : ByteArray := prog_7_method_21_code
def yX5_change : MethodName := ⟨RX5, "change", "(II)V"⟩
abbrev cX5_swap : ByteArray := prog_7_method_22_code
def yX5_swap : MethodName := ⟨RX5, "swap", "(II)I"⟩
abbrev cX5_feed : ByteArray := prog_7_method_23_code
def yX5_feed : MethodName := ⟨RX5, "feed", "(I)I"⟩
abbrev cX5_wipe : ByteArray := prog_7_method_24_code
def yX5_wipe : MethodName := ⟨RX5, "wipe", "()I"⟩
abbrev cX5_isLetter : ByteArray := prog_7_method_25_code
def yX5_isLetter : MethodName := ⟨RX5, "isLetter", "(I)Z"⟩
abbrev cX5_isDigit : ByteArray := prog_7_method_26_code
def yX5_isDigit : MethodName := ⟨RX5, "isDigit", "(I)Z"⟩
abbrev cX5_look : ByteArray := prog_7_method_27_code
def yX5_look : MethodName := ⟨RX5, "look", "()V"⟩
abbrev cX5_wrong : ByteArray := prog_7_method_28_code
def yX5_wrong : MethodName := ⟨RX5, "wrong", "()Z"⟩
abbrev cX5_isWord : ByteArray := prog_7_method_29_code
def yX5_isWord : MethodName := ⟨RX5, "isWord", "(Ljava/lang/String;)Z"⟩
abbrev cX5_number : ByteArray := prog_7_method_30_code
def yX5_number : MethodName := ⟨RX5, "number", "(III)Z"⟩
abbrev cX5_tells : ByteArray := prog_7_method_31_code
def yX5_tells : MethodName := ⟨RX5, "tells", "(II)Z"⟩
abbrev cX5_heapTold : ByteArray := prog_7_method_32_code
def yX5_heapTold : MethodName := ⟨RX5, "heapTold", "()Z"⟩
abbrev cX5_readTold : ByteArray := prog_7_method_33_code
def yX5_readTold : MethodName := ⟨RX5, "readTold", "()Z"⟩
abbrev cX5_swapTold : ByteArray := prog_7_method_34_code
def yX5_swapTold : MethodName := ⟨RX5, "swapTold", "()Z"⟩
abbrev cX5_statement : ByteArray := prog_7_method_35_code
def yX5_statement : MethodName := ⟨RX5, "statement", "()Z"⟩
abbrev cX5_readAll : ByteArray := prog_7_method_36_code
def yX5_readAll : MethodName := ⟨RX5, "readAll", "()Z"⟩
abbrev cX5_drum : ByteArray := prog_7_method_37_code
def yX5_drum : MethodName := ⟨RX5, "drum", "()I"⟩
abbrev cX5_heapOf : ByteArray := prog_7_method_38_code
def yX5_heapOf : MethodName := ⟨RX5, "heapOf", "(II)I"⟩
abbrev cX5_factOf : ByteArray := prog_7_method_39_code
def yX5_factOf : MethodName := ⟨RX5, "factOf", "(II)I"⟩
abbrev cX5_seeHeaps : ByteArray := prog_7_method_40_code
def yX5_seeHeaps : MethodName := ⟨RX5, "seeHeaps", "()V"⟩
abbrev cX5_holds_ : ByteArray := prog_7_method_41_code
def yX5_holds_ : MethodName := ⟨RX5, "holds", "(III)Z"⟩
abbrev cX5_readA : ByteArray := prog_7_method_42_code
def yX5_readA : MethodName := ⟨RX5, "readA", "(I)I"⟩
abbrev cX5_isFit : ByteArray := prog_7_method_43_code
def yX5_isFit : MethodName := ⟨RX5, "isFit", "(II)Z"⟩
abbrev cX5_seeAll : ByteArray := prog_7_method_44_code
def yX5_seeAll : MethodName := ⟨RX5, "seeAll", "()V"⟩
abbrev cX5_isSureAt : ByteArray := prog_7_method_45_code
def yX5_isSureAt : MethodName := ⟨RX5, "isSureAt", "(II)Z"⟩
abbrev cX5_isSo : ByteArray := prog_7_method_46_code
def yX5_isSo : MethodName := ⟨RX5, "isSo", "(IIII)Z"⟩
abbrev cX5_count : ByteArray := prog_7_method_47_code
def yX5_count : MethodName := ⟨RX5, "count", "(II)J"⟩
abbrev cX5_countBack : ByteArray := prog_7_method_48_code
def yX5_countBack : MethodName := ⟨RX5, "countBack", "()V"⟩
abbrev cX5_through : ByteArray := prog_7_method_49_code
def yX5_through : MethodName := ⟨RX5, "through", "(II)J"⟩
abbrev cX5_rows : ByteArray := prog_7_method_50_code
def yX5_rows : MethodName := ⟨RX5, "rows", "()I"⟩
abbrev cX5_waysOf : ByteArray := prog_7_method_51_code
def yX5_waysOf : MethodName := ⟨RX5, "waysOf", "()J"⟩
abbrev cX5_ways : ByteArray := prog_7_method_52_code
def yX5_ways : MethodName := ⟨RX5, "ways", "()I"⟩
abbrev cX5_heapAt : ByteArray := prog_7_method_53_code
def yX5_heapAt : MethodName := ⟨RX5, "heapAt", "(I)I"⟩
abbrev cX5_startOf : ByteArray := prog_7_method_54_code
def yX5_startOf : MethodName := ⟨RX5, "startOf", "(I)I"⟩
abbrev cX5_leftNow : ByteArray := prog_7_method_55_code
def yX5_leftNow : MethodName := ⟨RX5, "leftNow", "(Z)I"⟩
abbrev cX5_isThere : ByteArray := prog_7_method_56_code
def yX5_isThere : MethodName := ⟨RX5, "isThere", "(Z)Z"⟩
abbrev cX5_read : ByteArray := prog_7_method_57_code
def yX5_read : MethodName := ⟨RX5, "read", "(Z)I"⟩
abbrev cX5_slip : ByteArray := prog_7_method_58_code
def yX5_slip : MethodName := ⟨RX5, "slip", "(I)I"⟩
abbrev cX5_again : ByteArray := prog_7_method_59_code
def yX5_again : MethodName := ⟨RX5, "again", "()I"⟩
abbrev cX5_lead : ByteArray := prog_7_method_60_code
def yX5_lead : MethodName := ⟨RX5, "lead", "()I"⟩
abbrev cX5_countFits : ByteArray := prog_7_method_61_code
def yX5_countFits : MethodName := ⟨RX5, "countFits", "(II)J"⟩
abbrev cX5_ahead : ByteArray := prog_7_method_62_code
def yX5_ahead : MethodName := ⟨RX5, "ahead", "(I)I"⟩
abbrev cX5_never : ByteArray := prog_7_method_63_code
def yX5_never : MethodName := ⟨RX5, "never", "()I"⟩
abbrev cX5_countMoments : ByteArray := prog_7_method_64_code
def yX5_countMoments : MethodName := ⟨RX5, "countMoments", "(Z)V"⟩
abbrev cX5_levels : ByteArray := prog_7_method_65_code
def yX5_levels : MethodName := ⟨RX5, "levels", "(I)J"⟩
abbrev cX5_level : ByteArray := prog_7_method_66_code
def yX5_level : MethodName := ⟨RX5, "level", "(I)I"⟩
abbrev cX5_last : ByteArray := prog_7_method_67_code
def yX5_last : MethodName := ⟨RX5, "last", "(I)I"⟩
abbrev cX5_greatest : ByteArray := prog_7_method_68_code
def yX5_greatest : MethodName := ⟨RX5, "greatest", "(I)I"⟩
abbrev cX5_findSure : ByteArray := prog_7_method_69_code
def yX5_findSure : MethodName := ⟨RX5, "findSure", "()V"⟩
abbrev cX5_sure : ByteArray := prog_7_method_70_code
def yX5_sure : MethodName := ⟨RX5, "sure", "(I)I"⟩
abbrev cX5_soFar : ByteArray := prog_7_method_71_code
def yX5_soFar : MethodName := ⟨RX5, "soFar", "(II)I"⟩
abbrev cX5_spentNow : ByteArray := prog_7_method_72_code
def yX5_spentNow : MethodName := ⟨RX5, "spentNow", "()J"⟩
abbrev cX5_spent : ByteArray := prog_7_method_73_code
def yX5_spent : MethodName := ⟨RX5, "spent", "()J"⟩
abbrev cX5_mean : ByteArray := prog_7_method_74_code
def yX5_mean : MethodName := ⟨RX5, "mean", "()J"⟩
abbrev cX5_price : ByteArray := prog_7_method_75_code
def yX5_price : MethodName := ⟨RX5, "price", "(I)I"⟩
abbrev cX5_often : ByteArray := prog_7_method_76_code
def yX5_often : MethodName := ⟨RX5, "often", "()I"⟩
abbrev cX5_half : ByteArray := prog_7_method_77_code
def yX5_half : MethodName := ⟨RX5, "half", "()I"⟩
abbrev cX5_isSure : ByteArray := prog_7_method_78_code
def yX5_isSure : MethodName := ⟨RX5, "isSure", "()I"⟩
abbrev cX5_seeOneHeap : ByteArray := prog_7_method_79_code
def yX5_seeOneHeap : MethodName := ⟨RX5, "seeOneHeap", "()V"⟩
abbrev cX5_seeBack : ByteArray := prog_7_method_80_code
def yX5_seeBack : MethodName := ⟨RX5, "seeBack", "()V"⟩
abbrev cX5_countSurely : ByteArray := prog_7_method_81_code
def yX5_countSurely : MethodName := ⟨RX5, "countSurely", "(I)J"⟩
abbrev cX5_drawn : ByteArray := prog_7_method_82_code
def yX5_drawn : MethodName := ⟨RX5, "drawn", "(II)J"⟩
abbrev cX5_head : ByteArray := prog_7_method_83_code
def yX5_head : MethodName := ⟨RX5, "head", "()I"⟩
abbrev cX5_noRoom : ByteArray := prog_7_method_84_code
def yX5_noRoom : MethodName := ⟨RX5, "noRoom", "(I)I"⟩
abbrev cX5_judge : ByteArray := prog_7_method_85_code
def yX5_judge : MethodName := ⟨RX5, "judge", "(I)I"⟩
abbrev cX5_noWhole : ByteArray := prog_7_method_86_code
def yX5_noWhole : MethodName := ⟨RX5, "noWhole", "(I)I"⟩
abbrev cX5_ofTold : ByteArray := prog_7_method_87_code
def yX5_ofTold : MethodName := ⟨RX5, "ofTold", "(II)I"⟩
abbrev cX5_told : ByteArray := prog_7_method_88_code
def yX5_told : MethodName := ⟨RX5, "told", "(II)I"⟩
abbrev cX5_luck : ByteArray := prog_7_method_89_code
def yX5_luck : MethodName := ⟨RX5, "luck", "(I)I"⟩
abbrev cX5_seek : ByteArray := prog_7_method_90_code
def yX5_seek : MethodName := ⟨RX5, "seek", "(IIZ)V"⟩
abbrev cX5_order : ByteArray := prog_7_method_91_code
def yX5_order : MethodName := ⟨RX5, "order", "(ZI)I"⟩
abbrev cX5_lost : ByteArray := prog_7_method_92_code
def yX5_lost : MethodName := ⟨RX5, "lost", "(I)I"⟩
abbrev cX5_noBooks : ByteArray := prog_7_method_93_code
def yX5_noBooks : MethodName := ⟨RX5, "noBooks", "(II)I"⟩
abbrev cX5_unlikeAt : ByteArray := prog_7_method_94_code
def yX5_unlikeAt : MethodName := ⟨RX5, "unlikeAt", "(II)I"⟩
abbrev cX5_books : ByteArray := prog_7_method_95_code
def yX5_books : MethodName := ⟨RX5, "books", "(II)I"⟩
abbrev cX5_unlike : ByteArray := prog_7_method_96_code
def yX5_unlike : MethodName := ⟨RX5, "unlike", "(II)I"⟩
abbrev cX5_below : ByteArray := prog_7_method_97_code
def yX5_below : MethodName := ⟨RX5, "below", "(I)I"⟩
abbrev cX5_drawOne : ByteArray := prog_7_method_98_code
def yX5_drawOne : MethodName := ⟨RX5, "drawOne", "()I"⟩
abbrev cX5_draw : ByteArray := prog_7_method_99_code
def yX5_draw : MethodName := ⟨RX5, "draw", "()I"⟩
abbrev cX5_evening : ByteArray := prog_7_method_100_code
def yX5_evening : MethodName := ⟨RX5, "evening", "()I"⟩
abbrev cX5_seed : ByteArray := prog_7_method_101_code
def yX5_seed : MethodName := ⟨RX5, "seed", "(I)I"⟩
abbrev cX5_fresh : ByteArray := prog_7_method_102_code
def yX5_fresh : MethodName := ⟨RX5, "fresh", "()LAlwaysAheadModel;"⟩
abbrev cX5_over : ByteArray := prog_7_method_103_code
def yX5_over : MethodName := ⟨RX5, "over", "([I[I)V"⟩
abbrev cX5_takeFrom : ByteArray := prog_7_method_104_code
def yX5_takeFrom : MethodName := ⟨RX5, "takeFrom", "(LAlwaysAheadModel;)V"⟩
abbrev cX5_image : ByteArray := prog_7_method_105_code
def yX5_image : MethodName := ⟨RX5, "image", "()I"⟩
abbrev cX5_back : ByteArray := prog_7_method_106_code
def yX5_back : MethodName := ⟨RX5, "back", "()I"⟩
abbrev cX5_status : ByteArray := prog_7_method_107_code
def yX5_status : MethodName := ⟨RX5, "status", "(I)I"⟩
def RJx145de : String := "java/io/Serializable"
def RJx9f9b0 : String := "java/lang/CharSequence"
def RJxb160c : String := "java/lang/Comparable"
def RJ9 : String := "java/lang/Math"
abbrev cJ9_floorDiv_7cf53 : ByteArray := prog_8_method_47_code
def yJ9_floorDiv_7cf53 : MethodName := ⟨RJ9, "floorDiv", "(II)I"⟩
abbrev cJ9_abs_0f7a4 : ByteArray := prog_8_method_59_code
def yJ9_abs_0f7a4 : MethodName := ⟨RJ9, "abs", "(I)I"⟩
abbrev cJ9_max_7cf53 : ByteArray := prog_8_method_65_code
def yJ9_max_7cf53 : MethodName := ⟨RJ9, "max", "(II)I"⟩
abbrev cJ9_min_7cf53 : ByteArray := prog_8_method_69_code
def yJ9_min_7cf53 : MethodName := ⟨RJ9, "min", "(II)I"⟩
def RJ0 : String := "java/lang/String"
abbrev cJ0_length_8abf5 : ByteArray := prog_9_method_54_code
def yJ0_length_8abf5 : MethodName := ⟨RJ0, "length", "()I"⟩
abbrev cJ0_charAt_5068e : ByteArray := prog_9_method_56_code
def yJ0_charAt_5068e : MethodName := ⟨RJ0, "charAt", "(I)C"⟩
abbrev cJ0_coder_7d493 : ByteArray := prog_9_method_152_code
def yJ0_coder_7d493 : MethodName := ⟨RJ0, "coder", "()B"⟩
abbrev cJ0_isLatin1_aae02 : ByteArray := prog_9_method_154_code
def yJ0_isLatin1_aae02 : MethodName := ⟨RJ0, "isLatin1", "()Z"⟩
abbrev cJ0_checkIndex_df160 : ByteArray := prog_9_method_155_code
def yJ0_checkIndex_df160 : MethodName := ⟨RJ0, "checkIndex", "(II)V"⟩
def RJ1 : String := "java/lang/StringLatin1"
abbrev cJ1_charAt_3b067 : ByteArray := prog_10_method_2_code
def yJ1_charAt_3b067 : MethodName := ⟨RJ1, "charAt", "([BI)C"⟩
def RJ2 : String := "java/lang/StringUTF16"
abbrev cJ2_getChar_3b067 : ByteArray := prog_11_method_5_code
def yJ2_getChar_3b067 : MethodName := ⟨RJ2, "getChar", "([BI)C"⟩
abbrev cJ2_length_9d52b : ByteArray := prog_11_method_6_code
def yJ2_length_9d52b : MethodName := ⟨RJ2, "length", "([B)I"⟩
abbrev cJ2_charAt_3b067 : ByteArray := prog_11_method_83_code
def yJ2_charAt_3b067 : MethodName := ⟨RJ2, "charAt", "([BI)C"⟩
abbrev cJ2_checkIndex_2214a : ByteArray := prog_11_method_91_code
def yJ2_checkIndex_2214a : MethodName := ⟨RJ2, "checkIndex", "(I[B)V"⟩
def RJ10 : String := "java/lang/System"
def RJxfd54e : String := "java/lang/constant/Constable"
def RJx3cf43 : String := "java/lang/constant/ConstantDesc"
def RJ7 : String := "java/util/Arrays"
abbrev cJ7_fill_d0a16 : ByteArray := prog_13_method_101_code
def yJ7_fill_d0a16 : MethodName := ⟨RJ7, "fill", "([JJ)V"⟩
abbrev cJ7_fill_53178 : ByteArray := prog_13_method_103_code
def yJ7_fill_53178 : MethodName := ⟨RJ7, "fill", "([II)V"⟩
def RJ3 : String := "jdk/internal/util/Preconditions"
abbrev cJ3_checkIndex_8e157 : ByteArray := prog_14_method_11_code
def yJ3_checkIndex_8e157 : MethodName := ⟨RJ3, "checkIndex", "(IILjava/util/function/BiFunction;)I"⟩
def RL : String := "AlwaysAheadLaw"
abbrev cL_law : ByteArray := code
def yL_law : MethodName := ⟨RL, "law", "([I)Z"⟩
abbrev vwCl : List vw_C := [(RX0, TX0, 8), (RX1, TX1, 14), (RX2, TX2, 4), (RX3, TX3, 6), (RX4, TX4, 9), (RX5, TX5, 40)]
def am_T : List Cond := lw_tbl.filter goodWord
theorem am_Tt {w : Cond} (n : Nat) (h : tables_1[n]? = some w) (hg : goodWord w = true) : w ∈ am_T := List.mem_filter.mpr ⟨List.mem_append_right _ (List.mem_of_getElem? h), hg⟩
theorem am_Tp {w : Cond} (n : Nat) (h : (k2_sels lw_privs)[n]? = some w) (hg : goodWord w = true) : w ∈ am_T := List.mem_filter.mpr ⟨List.mem_append_left _ (List.mem_of_getElem? h), hg⟩
theorem am_Tg : GoodIn am_T am_T := fun w h => ⟨h, good_of_word (List.mem_filter.mp h).2⟩
