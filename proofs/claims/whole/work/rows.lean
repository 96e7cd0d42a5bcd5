section
-- ===== PART A: goes FIRST, ahead of the names: the tables' words, and 'selects' of the private methods out of them =====
/-- a private method of a class that the tables say can be made, by its rows of tables_1 -/
def lw_okq (q : MethodName × Nat) : Prop := (q.1.cls ≠ "java/lang/invoke/MethodHandle" ∧ q.1.cls ≠ "java/lang/invoke/VarHandle") ∧ Cond.instantiable q.1.cls q.2 ∈ tables_1 ∧ Cond.privateMethod q.1 ∈ tables_1 ∧ Cond.instanceMethod q.1 ∈ tables_1
theorem lw_p0 : lw_okq (⟨"MultiValueFile", "remember", "()V"⟩, 8) := ⟨⟨by decide +kernel, by decide +kernel⟩, List.mem_of_getElem? (i := 12) (by decide +kernel), List.mem_of_getElem? (i := 211) (by decide +kernel), List.mem_of_getElem? (i := 212) (by decide +kernel)⟩
theorem lw_p1 : lw_okq (⟨"MultiValueFile", "dropOldest", "()V"⟩, 8) := ⟨⟨by decide +kernel, by decide +kernel⟩, List.mem_of_getElem? (i := 12) (by decide +kernel), List.mem_of_getElem? (i := 215) (by decide +kernel), List.mem_of_getElem? (i := 216) (by decide +kernel)⟩
theorem lw_p2 : lw_okq (⟨"MultiValueFile", "insertValue", "(LMultiValueFile$FileRecord;III)I"⟩, 8) := ⟨⟨by decide +kernel, by decide +kernel⟩, List.mem_of_getElem? (i := 12) (by decide +kernel), List.mem_of_getElem? (i := 294) (by decide +kernel), List.mem_of_getElem? (i := 295) (by decide +kernel)⟩
theorem lw_p3 : lw_okq (⟨"MultiValueFile$FileRecord", "moveValue", "(III)V"⟩, 5) := ⟨⟨by decide +kernel, by decide +kernel⟩, List.mem_of_getElem? (i := 27) (by decide +kernel), List.mem_of_getElem? (i := 306) (by decide +kernel), List.mem_of_getElem? (i := 307) (by decide +kernel)⟩
theorem lw_p4 : lw_okq (⟨"MultiValueFile", "insertSub", "(LMultiValueFile$FileRecord;IIII)I"⟩, 8) := ⟨⟨by decide +kernel, by decide +kernel⟩, List.mem_of_getElem? (i := 12) (by decide +kernel), List.mem_of_getElem? (i := 314) (by decide +kernel), List.mem_of_getElem? (i := 315) (by decide +kernel)⟩
theorem lw_p5 : lw_okq (⟨"MultiValueFile$TextReader", "takes", "(I)Z"⟩, 5) := ⟨⟨by decide +kernel, by decide +kernel⟩, List.mem_of_getElem? (i := 105) (by decide +kernel), List.mem_of_getElem? (i := 381) (by decide +kernel), List.mem_of_getElem? (i := 382) (by decide +kernel)⟩
theorem lw_p6 : lw_okq (⟨"MultiValueFile$TextReader", "takesDigit", "(I)Z"⟩, 5) := ⟨⟨by decide +kernel, by decide +kernel⟩, List.mem_of_getElem? (i := 105) (by decide +kernel), List.mem_of_getElem? (i := 385) (by decide +kernel), List.mem_of_getElem? (i := 386) (by decide +kernel)⟩
theorem lw_p7 : lw_okq (⟨"MultiValueFile$TextReader", "beginNumber", "()V"⟩, 5) := ⟨⟨by decide +kernel, by decide +kernel⟩, List.mem_of_getElem? (i := 105) (by decide +kernel), List.mem_of_getElem? (i := 392) (by decide +kernel), List.mem_of_getElem? (i := 393) (by decide +kernel)⟩
theorem lw_p8 : lw_okq (⟨"MultiValueFile$TextReader", "lastValue", "()I"⟩, 5) := ⟨⟨by decide +kernel, by decide +kernel⟩, List.mem_of_getElem? (i := 105) (by decide +kernel), List.mem_of_getElem? (i := 397) (by decide +kernel), List.mem_of_getElem? (i := 398) (by decide +kernel)⟩
theorem lw_p9 : lw_okq (⟨"MultiValueFile$TextReader", "lastSub", "()I"⟩, 5) := ⟨⟨by decide +kernel, by decide +kernel⟩, List.mem_of_getElem? (i := 105) (by decide +kernel), List.mem_of_getElem? (i := 402) (by decide +kernel), List.mem_of_getElem? (i := 403) (by decide +kernel)⟩
theorem lw_p10 : lw_okq (⟨"MultiValueFile$TextReader", "takesMinus", "()Z"⟩, 5) := ⟨⟨by decide +kernel, by decide +kernel⟩, List.mem_of_getElem? (i := 105) (by decide +kernel), List.mem_of_getElem? (i := 408) (by decide +kernel), List.mem_of_getElem? (i := 409) (by decide +kernel)⟩
theorem lw_p11 : lw_okq (⟨"MultiValueFile$TextReader", "takesSlash", "()Z"⟩, 5) := ⟨⟨by decide +kernel, by decide +kernel⟩, List.mem_of_getElem? (i := 105) (by decide +kernel), List.mem_of_getElem? (i := 412) (by decide +kernel), List.mem_of_getElem? (i := 413) (by decide +kernel)⟩
theorem lw_p12 : lw_okq (⟨"MultiValueFile$TextReader", "takesBracket", "()Z"⟩, 5) := ⟨⟨by decide +kernel, by decide +kernel⟩, List.mem_of_getElem? (i := 105) (by decide +kernel), List.mem_of_getElem? (i := 417) (by decide +kernel), List.mem_of_getElem? (i := 418) (by decide +kernel)⟩
theorem lw_p13 : lw_okq (⟨"MultiValueFile$TextReader", "takesCaret", "()Z"⟩, 5) := ⟨⟨by decide +kernel, by decide +kernel⟩, List.mem_of_getElem? (i := 105) (by decide +kernel), List.mem_of_getElem? (i := 421) (by decide +kernel), List.mem_of_getElem? (i := 422) (by decide +kernel)⟩
theorem lw_p14 : lw_okq (⟨"MultiValueFile$TextReader", "isNumberOver", "()Z"⟩, 5) := ⟨⟨by decide +kernel, by decide +kernel⟩, List.mem_of_getElem? (i := 105) (by decide +kernel), List.mem_of_getElem? (i := 425) (by decide +kernel), List.mem_of_getElem? (i := 426) (by decide +kernel)⟩
theorem lw_p15 : lw_okq (⟨"MultiValueFile$TextReader", "isComplete", "()Z"⟩, 5) := ⟨⟨by decide +kernel, by decide +kernel⟩, List.mem_of_getElem? (i := 105) (by decide +kernel), List.mem_of_getElem? (i := 429) (by decide +kernel), List.mem_of_getElem? (i := 430) (by decide +kernel)⟩
def lw_privs_1 : List (MethodName × Nat) := [(⟨"MultiValueFile", "remember", "()V"⟩, 8), (⟨"MultiValueFile", "dropOldest", "()V"⟩, 8), (⟨"MultiValueFile", "insertValue", "(LMultiValueFile$FileRecord;III)I"⟩, 8), (⟨"MultiValueFile$FileRecord", "moveValue", "(III)V"⟩, 5), (⟨"MultiValueFile", "insertSub", "(LMultiValueFile$FileRecord;IIII)I"⟩, 8), (⟨"MultiValueFile$TextReader", "takes", "(I)Z"⟩, 5), (⟨"MultiValueFile$TextReader", "takesDigit", "(I)Z"⟩, 5), (⟨"MultiValueFile$TextReader", "beginNumber", "()V"⟩, 5), (⟨"MultiValueFile$TextReader", "lastValue", "()I"⟩, 5), (⟨"MultiValueFile$TextReader", "lastSub", "()I"⟩, 5), (⟨"MultiValueFile$TextReader", "takesMinus", "()Z"⟩, 5), (⟨"MultiValueFile$TextReader", "takesSlash", "()Z"⟩, 5), (⟨"MultiValueFile$TextReader", "takesBracket", "()Z"⟩, 5), (⟨"MultiValueFile$TextReader", "takesCaret", "()Z"⟩, 5), (⟨"MultiValueFile$TextReader", "isNumberOver", "()Z"⟩, 5), (⟨"MultiValueFile$TextReader", "isComplete", "()Z"⟩, 5)]
theorem lw_r1 : ∀ q ∈ lw_privs_1, lw_okq q := List.forall_mem_cons.mpr ⟨lw_p0, List.forall_mem_cons.mpr ⟨lw_p1, List.forall_mem_cons.mpr ⟨lw_p2, List.forall_mem_cons.mpr ⟨lw_p3, List.forall_mem_cons.mpr ⟨lw_p4, List.forall_mem_cons.mpr ⟨lw_p5, List.forall_mem_cons.mpr ⟨lw_p6, List.forall_mem_cons.mpr ⟨lw_p7, List.forall_mem_cons.mpr ⟨lw_p8, List.forall_mem_cons.mpr ⟨lw_p9, List.forall_mem_cons.mpr ⟨lw_p10, List.forall_mem_cons.mpr ⟨lw_p11, List.forall_mem_cons.mpr ⟨lw_p12, List.forall_mem_cons.mpr ⟨lw_p13, List.forall_mem_cons.mpr ⟨lw_p14, List.forall_mem_cons.mpr ⟨lw_p15, fun _ h => absurd h List.not_mem_nil⟩⟩⟩⟩⟩⟩⟩⟩⟩⟩⟩⟩⟩⟩⟩⟩
theorem lw_p16 : lw_okq (⟨"MultiValueFile", "isSelected", "(IIZ)Z"⟩, 8) := ⟨⟨by decide +kernel, by decide +kernel⟩, List.mem_of_getElem? (i := 12) (by decide +kernel), List.mem_of_getElem? (i := 501) (by decide +kernel), List.mem_of_getElem? (i := 502) (by decide +kernel)⟩
theorem lw_p17 : lw_okq (⟨"MultiValueFile", "printField", "(LMultiValueFile$FileRecord;I)V"⟩, 8) := ⟨⟨by decide +kernel, by decide +kernel⟩, List.mem_of_getElem? (i := 12) (by decide +kernel), List.mem_of_getElem? (i := 554) (by decide +kernel), List.mem_of_getElem? (i := 555) (by decide +kernel)⟩
theorem lw_p18 : lw_okq (⟨"MultiValueFile", "entryCount", "(I)I"⟩, 8) := ⟨⟨by decide +kernel, by decide +kernel⟩, List.mem_of_getElem? (i := 12) (by decide +kernel), List.mem_of_getElem? (i := 633) (by decide +kernel), List.mem_of_getElem? (i := 634) (by decide +kernel)⟩
theorem lw_p19 : lw_okq (⟨"MultiValueFile", "explode", "(IZ)V"⟩, 8) := ⟨⟨by decide +kernel, by decide +kernel⟩, List.mem_of_getElem? (i := 12) (by decide +kernel), List.mem_of_getElem? (i := 641) (by decide +kernel), List.mem_of_getElem? (i := 642) (by decide +kernel)⟩
theorem lw_p20 : lw_okq (⟨"MultiValueFile$ExplodedList", "isBehind", "(II)Z"⟩, 5) := ⟨⟨by decide +kernel, by decide +kernel⟩, List.mem_of_getElem? (i := 146) (by decide +kernel), List.mem_of_getElem? (i := 653) (by decide +kernel), List.mem_of_getElem? (i := 654) (by decide +kernel)⟩
theorem lw_p21 : lw_okq (⟨"MultiValueFile$ExplodedList", "put", "(IIII)V"⟩, 5) := ⟨⟨by decide +kernel, by decide +kernel⟩, List.mem_of_getElem? (i := 146) (by decide +kernel), List.mem_of_getElem? (i := 657) (by decide +kernel), List.mem_of_getElem? (i := 658) (by decide +kernel)⟩
theorem lw_p22 : lw_okq (⟨"MultiValueFile", "sumOf", "(II)I"⟩, 8) := ⟨⟨by decide +kernel, by decide +kernel⟩, List.mem_of_getElem? (i := 12) (by decide +kernel), List.mem_of_getElem? (i := 665) (by decide +kernel), List.mem_of_getElem? (i := 666) (by decide +kernel)⟩
theorem lw_p23 : lw_okq (⟨"MultiValueFileModel", "begins", "()V"⟩, 15) := ⟨⟨by decide +kernel, by decide +kernel⟩, List.mem_of_getElem? (i := 679) (by decide +kernel), List.mem_of_getElem? (i := 735) (by decide +kernel), List.mem_of_getElem? (i := 736) (by decide +kernel)⟩
theorem lw_p24 : lw_okq (⟨"MultiValueFileModel", "goCreate", "(I)I"⟩, 15) := ⟨⟨by decide +kernel, by decide +kernel⟩, List.mem_of_getElem? (i := 679) (by decide +kernel), List.mem_of_getElem? (i := 742) (by decide +kernel), List.mem_of_getElem? (i := 743) (by decide +kernel)⟩
theorem lw_p25 : lw_okq (⟨"MultiValueFileModel", "placeOf", "(I)I"⟩, 15) := ⟨⟨by decide +kernel, by decide +kernel⟩, List.mem_of_getElem? (i := 679) (by decide +kernel), List.mem_of_getElem? (i := 750) (by decide +kernel), List.mem_of_getElem? (i := 751) (by decide +kernel)⟩
theorem lw_p26 : lw_okq (⟨"MultiValueFileModel", "of", "(II)I"⟩, 15) := ⟨⟨by decide +kernel, by decide +kernel⟩, List.mem_of_getElem? (i := 679) (by decide +kernel), List.mem_of_getElem? (i := 755) (by decide +kernel), List.mem_of_getElem? (i := 756) (by decide +kernel)⟩
theorem lw_p27 : lw_okq (⟨"MultiValueFileModel", "lays", "(III)V"⟩, 15) := ⟨⟨by decide +kernel, by decide +kernel⟩, List.mem_of_getElem? (i := 679) (by decide +kernel), List.mem_of_getElem? (i := 761) (by decide +kernel), List.mem_of_getElem? (i := 762) (by decide +kernel)⟩
theorem lw_p28 : lw_okq (⟨"MultiValueFileModel", "keeps", "(I)I"⟩, 15) := ⟨⟨by decide +kernel, by decide +kernel⟩, List.mem_of_getElem? (i := 679) (by decide +kernel), List.mem_of_getElem? (i := 765) (by decide +kernel), List.mem_of_getElem? (i := 766) (by decide +kernel)⟩
theorem lw_p29 : lw_okq (⟨"MultiValueFileModel", "goDelete", "(II)I"⟩, 15) := ⟨⟨by decide +kernel, by decide +kernel⟩, List.mem_of_getElem? (i := 679) (by decide +kernel), List.mem_of_getElem? (i := 773) (by decide +kernel), List.mem_of_getElem? (i := 774) (by decide +kernel)⟩
theorem lw_p30 : lw_okq (⟨"MultiValueFileModel", "errorOf", "(II)I"⟩, 15) := ⟨⟨by decide +kernel, by decide +kernel⟩, List.mem_of_getElem? (i := 679) (by decide +kernel), List.mem_of_getElem? (i := 777) (by decide +kernel), List.mem_of_getElem? (i := 778) (by decide +kernel)⟩
theorem lw_p31 : lw_okq (⟨"MultiValueFileModel", "isBarred", "(II)Z"⟩, 15) := ⟨⟨by decide +kernel, by decide +kernel⟩, List.mem_of_getElem? (i := 679) (by decide +kernel), List.mem_of_getElem? (i := 784) (by decide +kernel), List.mem_of_getElem? (i := 785) (by decide +kernel)⟩
def lw_privs_2 : List (MethodName × Nat) := [(⟨"MultiValueFile", "isSelected", "(IIZ)Z"⟩, 8), (⟨"MultiValueFile", "printField", "(LMultiValueFile$FileRecord;I)V"⟩, 8), (⟨"MultiValueFile", "entryCount", "(I)I"⟩, 8), (⟨"MultiValueFile", "explode", "(IZ)V"⟩, 8), (⟨"MultiValueFile$ExplodedList", "isBehind", "(II)Z"⟩, 5), (⟨"MultiValueFile$ExplodedList", "put", "(IIII)V"⟩, 5), (⟨"MultiValueFile", "sumOf", "(II)I"⟩, 8), (⟨"MultiValueFileModel", "begins", "()V"⟩, 15), (⟨"MultiValueFileModel", "goCreate", "(I)I"⟩, 15), (⟨"MultiValueFileModel", "placeOf", "(I)I"⟩, 15), (⟨"MultiValueFileModel", "of", "(II)I"⟩, 15), (⟨"MultiValueFileModel", "lays", "(III)V"⟩, 15), (⟨"MultiValueFileModel", "keeps", "(I)I"⟩, 15), (⟨"MultiValueFileModel", "goDelete", "(II)I"⟩, 15), (⟨"MultiValueFileModel", "errorOf", "(II)I"⟩, 15), (⟨"MultiValueFileModel", "isBarred", "(II)Z"⟩, 15)]
theorem lw_r2 : ∀ q ∈ lw_privs_2, lw_okq q := List.forall_mem_cons.mpr ⟨lw_p16, List.forall_mem_cons.mpr ⟨lw_p17, List.forall_mem_cons.mpr ⟨lw_p18, List.forall_mem_cons.mpr ⟨lw_p19, List.forall_mem_cons.mpr ⟨lw_p20, List.forall_mem_cons.mpr ⟨lw_p21, List.forall_mem_cons.mpr ⟨lw_p22, List.forall_mem_cons.mpr ⟨lw_p23, List.forall_mem_cons.mpr ⟨lw_p24, List.forall_mem_cons.mpr ⟨lw_p25, List.forall_mem_cons.mpr ⟨lw_p26, List.forall_mem_cons.mpr ⟨lw_p27, List.forall_mem_cons.mpr ⟨lw_p28, List.forall_mem_cons.mpr ⟨lw_p29, List.forall_mem_cons.mpr ⟨lw_p30, List.forall_mem_cons.mpr ⟨lw_p31, fun _ h => absurd h List.not_mem_nil⟩⟩⟩⟩⟩⟩⟩⟩⟩⟩⟩⟩⟩⟩⟩⟩
theorem lw_p32 : lw_okq (⟨"MultiValueFileModel", "goLock", "(II)I"⟩, 15) := ⟨⟨by decide +kernel, by decide +kernel⟩, List.mem_of_getElem? (i := 679) (by decide +kernel), List.mem_of_getElem? (i := 793) (by decide +kernel), List.mem_of_getElem? (i := 794) (by decide +kernel)⟩
theorem lw_p33 : lw_okq (⟨"MultiValueFileModel", "lockedBy", "(I)I"⟩, 15) := ⟨⟨by decide +kernel, by decide +kernel⟩, List.mem_of_getElem? (i := 679) (by decide +kernel), List.mem_of_getElem? (i := 797) (by decide +kernel), List.mem_of_getElem? (i := 798) (by decide +kernel)⟩
theorem lw_p34 : lw_okq (⟨"MultiValueFileModel", "goUnlock", "(II)I"⟩, 15) := ⟨⟨by decide +kernel, by decide +kernel⟩, List.mem_of_getElem? (i := 679) (by decide +kernel), List.mem_of_getElem? (i := 805) (by decide +kernel), List.mem_of_getElem? (i := 806) (by decide +kernel)⟩
theorem lw_p35 : lw_okq (⟨"MultiValueFileModel", "valuesOf", "(II)I"⟩, 15) := ⟨⟨by decide +kernel, by decide +kernel⟩, List.mem_of_getElem? (i := 679) (by decide +kernel), List.mem_of_getElem? (i := 816) (by decide +kernel), List.mem_of_getElem? (i := 817) (by decide +kernel)⟩
theorem lw_p36 : lw_okq (⟨"MultiValueFileModel", "hasValue", "(III)Z"⟩, 15) := ⟨⟨by decide +kernel, by decide +kernel⟩, List.mem_of_getElem? (i := 679) (by decide +kernel), List.mem_of_getElem? (i := 820) (by decide +kernel), List.mem_of_getElem? (i := 821) (by decide +kernel)⟩
theorem lw_p37 : lw_okq (⟨"MultiValueFileModel", "subsOf", "(III)I"⟩, 15) := ⟨⟨by decide +kernel, by decide +kernel⟩, List.mem_of_getElem? (i := 679) (by decide +kernel), List.mem_of_getElem? (i := 824) (by decide +kernel), List.mem_of_getElem? (i := 825) (by decide +kernel)⟩
theorem lw_p38 : lw_okq (⟨"MultiValueFileModel", "goInsert", "(IIIII)I"⟩, 15) := ⟨⟨by decide +kernel, by decide +kernel⟩, List.mem_of_getElem? (i := 679) (by decide +kernel), List.mem_of_getElem? (i := 834) (by decide +kernel), List.mem_of_getElem? (i := 835) (by decide +kernel)⟩
theorem lw_p39 : lw_okq (⟨"MultiValueFileModel", "copiesValue", "(IIII)V"⟩, 15) := ⟨⟨by decide +kernel, by decide +kernel⟩, List.mem_of_getElem? (i := 679) (by decide +kernel), List.mem_of_getElem? (i := 838) (by decide +kernel), List.mem_of_getElem? (i := 839) (by decide +kernel)⟩
theorem lw_p40 : lw_okq (⟨"MultiValueFileModel", "numberOf", "(IIII)I"⟩, 15) := ⟨⟨by decide +kernel, by decide +kernel⟩, List.mem_of_getElem? (i := 679) (by decide +kernel), List.mem_of_getElem? (i := 845) (by decide +kernel), List.mem_of_getElem? (i := 846) (by decide +kernel)⟩
theorem lw_p41 : lw_okq (⟨"MultiValueFileModel", "empties", "(III)V"⟩, 15) := ⟨⟨by decide +kernel, by decide +kernel⟩, List.mem_of_getElem? (i := 679) (by decide +kernel), List.mem_of_getElem? (i := 849) (by decide +kernel), List.mem_of_getElem? (i := 850) (by decide +kernel)⟩
theorem lw_p42 : lw_okq (⟨"MultiValueFileModel", "hasSub", "(IIII)Z"⟩, 15) := ⟨⟨by decide +kernel, by decide +kernel⟩, List.mem_of_getElem? (i := 679) (by decide +kernel), List.mem_of_getElem? (i := 857) (by decide +kernel), List.mem_of_getElem? (i := 858) (by decide +kernel)⟩
theorem lw_p43 : lw_okq (⟨"MultiValueFileModel", "goRemove", "(IIII)I"⟩, 15) := ⟨⟨by decide +kernel, by decide +kernel⟩, List.mem_of_getElem? (i := 679) (by decide +kernel), List.mem_of_getElem? (i := 865) (by decide +kernel), List.mem_of_getElem? (i := 866) (by decide +kernel)⟩
theorem lw_p44 : lw_okq (⟨"MultiValueFileModel", "dropsValue", "(III)V"⟩, 15) := ⟨⟨by decide +kernel, by decide +kernel⟩, List.mem_of_getElem? (i := 679) (by decide +kernel), List.mem_of_getElem? (i := 869) (by decide +kernel), List.mem_of_getElem? (i := 870) (by decide +kernel)⟩
theorem lw_p45 : lw_okq (⟨"MultiValueFileModel", "inLine", "(II)I"⟩, 15) := ⟨⟨by decide +kernel, by decide +kernel⟩, List.mem_of_getElem? (i := 679) (by decide +kernel), List.mem_of_getElem? (i := 877) (by decide +kernel), List.mem_of_getElem? (i := 878) (by decide +kernel)⟩
theorem lw_p46 : lw_okq (⟨"MultiValueFileModel", "takesAll", "(I)Z"⟩, 15) := ⟨⟨by decide +kernel, by decide +kernel⟩, List.mem_of_getElem? (i := 679) (by decide +kernel), List.mem_of_getElem? (i := 894) (by decide +kernel), List.mem_of_getElem? (i := 895) (by decide +kernel)⟩
theorem lw_p47 : lw_okq (⟨"MultiValueFileModel", "here", "()I"⟩, 15) := ⟨⟨by decide +kernel, by decide +kernel⟩, List.mem_of_getElem? (i := 679) (by decide +kernel), List.mem_of_getElem? (i := 898) (by decide +kernel), List.mem_of_getElem? (i := 899) (by decide +kernel)⟩
def lw_privs_3 : List (MethodName × Nat) := [(⟨"MultiValueFileModel", "goLock", "(II)I"⟩, 15), (⟨"MultiValueFileModel", "lockedBy", "(I)I"⟩, 15), (⟨"MultiValueFileModel", "goUnlock", "(II)I"⟩, 15), (⟨"MultiValueFileModel", "valuesOf", "(II)I"⟩, 15), (⟨"MultiValueFileModel", "hasValue", "(III)Z"⟩, 15), (⟨"MultiValueFileModel", "subsOf", "(III)I"⟩, 15), (⟨"MultiValueFileModel", "goInsert", "(IIIII)I"⟩, 15), (⟨"MultiValueFileModel", "copiesValue", "(IIII)V"⟩, 15), (⟨"MultiValueFileModel", "numberOf", "(IIII)I"⟩, 15), (⟨"MultiValueFileModel", "empties", "(III)V"⟩, 15), (⟨"MultiValueFileModel", "hasSub", "(IIII)Z"⟩, 15), (⟨"MultiValueFileModel", "goRemove", "(IIII)I"⟩, 15), (⟨"MultiValueFileModel", "dropsValue", "(III)V"⟩, 15), (⟨"MultiValueFileModel", "inLine", "(II)I"⟩, 15), (⟨"MultiValueFileModel", "takesAll", "(I)Z"⟩, 15), (⟨"MultiValueFileModel", "here", "()I"⟩, 15)]
theorem lw_r3 : ∀ q ∈ lw_privs_3, lw_okq q := List.forall_mem_cons.mpr ⟨lw_p32, List.forall_mem_cons.mpr ⟨lw_p33, List.forall_mem_cons.mpr ⟨lw_p34, List.forall_mem_cons.mpr ⟨lw_p35, List.forall_mem_cons.mpr ⟨lw_p36, List.forall_mem_cons.mpr ⟨lw_p37, List.forall_mem_cons.mpr ⟨lw_p38, List.forall_mem_cons.mpr ⟨lw_p39, List.forall_mem_cons.mpr ⟨lw_p40, List.forall_mem_cons.mpr ⟨lw_p41, List.forall_mem_cons.mpr ⟨lw_p42, List.forall_mem_cons.mpr ⟨lw_p43, List.forall_mem_cons.mpr ⟨lw_p44, List.forall_mem_cons.mpr ⟨lw_p45, List.forall_mem_cons.mpr ⟨lw_p46, List.forall_mem_cons.mpr ⟨lw_p47, fun _ h => absurd h List.not_mem_nil⟩⟩⟩⟩⟩⟩⟩⟩⟩⟩⟩⟩⟩⟩⟩⟩
theorem lw_p48 : lw_okq (⟨"MultiValueFileModel", "takes", "(Z)V"⟩, 15) := ⟨⟨by decide +kernel, by decide +kernel⟩, List.mem_of_getElem? (i := 679) (by decide +kernel), List.mem_of_getElem? (i := 902) (by decide +kernel), List.mem_of_getElem? (i := 903) (by decide +kernel)⟩
theorem lw_p49 : lw_okq (⟨"MultiValueFileModel", "takesField", "(II)V"⟩, 15) := ⟨⟨by decide +kernel, by decide +kernel⟩, List.mem_of_getElem? (i := 679) (by decide +kernel), List.mem_of_getElem? (i := 906) (by decide +kernel), List.mem_of_getElem? (i := 907) (by decide +kernel)⟩
theorem lw_p50 : lw_okq (⟨"MultiValueFileModel", "takesValue", "(III)V"⟩, 15) := ⟨⟨by decide +kernel, by decide +kernel⟩, List.mem_of_getElem? (i := 679) (by decide +kernel), List.mem_of_getElem? (i := 910) (by decide +kernel), List.mem_of_getElem? (i := 911) (by decide +kernel)⟩
theorem lw_p51 : lw_okq (⟨"MultiValueFileModel", "takesNumber", "()I"⟩, 15) := ⟨⟨by decide +kernel, by decide +kernel⟩, List.mem_of_getElem? (i := 679) (by decide +kernel), List.mem_of_getElem? (i := 914) (by decide +kernel), List.mem_of_getElem? (i := 915) (by decide +kernel)⟩
theorem lw_p52 : lw_okq (⟨"MultiValueFileModel", "writes", "(I)V"⟩, 15) := ⟨⟨by decide +kernel, by decide +kernel⟩, List.mem_of_getElem? (i := 679) (by decide +kernel), List.mem_of_getElem? (i := 927) (by decide +kernel), List.mem_of_getElem? (i := 928) (by decide +kernel)⟩
theorem lw_p53 : lw_okq (⟨"MultiValueFileModel", "writesField", "(II)V"⟩, 15) := ⟨⟨by decide +kernel, by decide +kernel⟩, List.mem_of_getElem? (i := 679) (by decide +kernel), List.mem_of_getElem? (i := 931) (by decide +kernel), List.mem_of_getElem? (i := 932) (by decide +kernel)⟩
theorem lw_p54 : lw_okq (⟨"MultiValueFileModel", "writesNumber", "(I)V"⟩, 15) := ⟨⟨by decide +kernel, by decide +kernel⟩, List.mem_of_getElem? (i := 679) (by decide +kernel), List.mem_of_getElem? (i := 935) (by decide +kernel), List.mem_of_getElem? (i := 936) (by decide +kernel)⟩
theorem lw_p55 : lw_okq (⟨"MultiValueFileModel", "goAssociate", "(IZ)I"⟩, 15) := ⟨⟨by decide +kernel, by decide +kernel⟩, List.mem_of_getElem? (i := 679) (by decide +kernel), List.mem_of_getElem? (i := 951) (by decide +kernel), List.mem_of_getElem? (i := 952) (by decide +kernel)⟩
theorem lw_p56 : lw_okq (⟨"MultiValueFileModel", "goDefine", "(IIII)I"⟩, 15) := ⟨⟨by decide +kernel, by decide +kernel⟩, List.mem_of_getElem? (i := 679) (by decide +kernel), List.mem_of_getElem? (i := 959) (by decide +kernel), List.mem_of_getElem? (i := 960) (by decide +kernel)⟩
theorem lw_p57 : lw_okq (⟨"MultiValueFileModel", "ofColumn", "(II)I"⟩, 15) := ⟨⟨by decide +kernel, by decide +kernel⟩, List.mem_of_getElem? (i := 679) (by decide +kernel), List.mem_of_getElem? (i := 966) (by decide +kernel), List.mem_of_getElem? (i := 967) (by decide +kernel)⟩
theorem lw_p58 : lw_okq (⟨"MultiValueFileModel", "goSelect", "(IIIZI)I"⟩, 15) := ⟨⟨by decide +kernel, by decide +kernel⟩, List.mem_of_getElem? (i := 679) (by decide +kernel), List.mem_of_getElem? (i := 974) (by decide +kernel), List.mem_of_getElem? (i := 975) (by decide +kernel)⟩
theorem lw_p59 : lw_okq (⟨"MultiValueFileModel", "isSelected", "(IIIIZ)Z"⟩, 15) := ⟨⟨by decide +kernel, by decide +kernel⟩, List.mem_of_getElem? (i := 679) (by decide +kernel), List.mem_of_getElem? (i := 983) (by decide +kernel), List.mem_of_getElem? (i := 984) (by decide +kernel)⟩
theorem lw_p60 : lw_okq (⟨"MultiValueFileModel", "tells", "(II)I"⟩, 15) := ⟨⟨by decide +kernel, by decide +kernel⟩, List.mem_of_getElem? (i := 679) (by decide +kernel), List.mem_of_getElem? (i := 987) (by decide +kernel), List.mem_of_getElem? (i := 988) (by decide +kernel)⟩
theorem lw_p61 : lw_okq (⟨"MultiValueFileModel", "givesAll", "(II)V"⟩, 15) := ⟨⟨by decide +kernel, by decide +kernel⟩, List.mem_of_getElem? (i := 679) (by decide +kernel), List.mem_of_getElem? (i := 991) (by decide +kernel), List.mem_of_getElem? (i := 992) (by decide +kernel)⟩
theorem lw_p62 : lw_okq (⟨"MultiValueFileModel", "gives", "(I)V"⟩, 15) := ⟨⟨by decide +kernel, by decide +kernel⟩, List.mem_of_getElem? (i := 679) (by decide +kernel), List.mem_of_getElem? (i := 995) (by decide +kernel), List.mem_of_getElem? (i := 996) (by decide +kernel)⟩
theorem lw_p63 : lw_okq (⟨"MultiValueFileModel", "sumOf", "(II)I"⟩, 15) := ⟨⟨by decide +kernel, by decide +kernel⟩, List.mem_of_getElem? (i := 679) (by decide +kernel), List.mem_of_getElem? (i := 999) (by decide +kernel), List.mem_of_getElem? (i := 1000) (by decide +kernel)⟩
def lw_privs_4 : List (MethodName × Nat) := [(⟨"MultiValueFileModel", "takes", "(Z)V"⟩, 15), (⟨"MultiValueFileModel", "takesField", "(II)V"⟩, 15), (⟨"MultiValueFileModel", "takesValue", "(III)V"⟩, 15), (⟨"MultiValueFileModel", "takesNumber", "()I"⟩, 15), (⟨"MultiValueFileModel", "writes", "(I)V"⟩, 15), (⟨"MultiValueFileModel", "writesField", "(II)V"⟩, 15), (⟨"MultiValueFileModel", "writesNumber", "(I)V"⟩, 15), (⟨"MultiValueFileModel", "goAssociate", "(IZ)I"⟩, 15), (⟨"MultiValueFileModel", "goDefine", "(IIII)I"⟩, 15), (⟨"MultiValueFileModel", "ofColumn", "(II)I"⟩, 15), (⟨"MultiValueFileModel", "goSelect", "(IIIZI)I"⟩, 15), (⟨"MultiValueFileModel", "isSelected", "(IIIIZ)Z"⟩, 15), (⟨"MultiValueFileModel", "tells", "(II)I"⟩, 15), (⟨"MultiValueFileModel", "givesAll", "(II)V"⟩, 15), (⟨"MultiValueFileModel", "gives", "(I)V"⟩, 15), (⟨"MultiValueFileModel", "sumOf", "(II)I"⟩, 15)]
theorem lw_r4 : ∀ q ∈ lw_privs_4, lw_okq q := List.forall_mem_cons.mpr ⟨lw_p48, List.forall_mem_cons.mpr ⟨lw_p49, List.forall_mem_cons.mpr ⟨lw_p50, List.forall_mem_cons.mpr ⟨lw_p51, List.forall_mem_cons.mpr ⟨lw_p52, List.forall_mem_cons.mpr ⟨lw_p53, List.forall_mem_cons.mpr ⟨lw_p54, List.forall_mem_cons.mpr ⟨lw_p55, List.forall_mem_cons.mpr ⟨lw_p56, List.forall_mem_cons.mpr ⟨lw_p57, List.forall_mem_cons.mpr ⟨lw_p58, List.forall_mem_cons.mpr ⟨lw_p59, List.forall_mem_cons.mpr ⟨lw_p60, List.forall_mem_cons.mpr ⟨lw_p61, List.forall_mem_cons.mpr ⟨lw_p62, List.forall_mem_cons.mpr ⟨lw_p63, fun _ h => absurd h List.not_mem_nil⟩⟩⟩⟩⟩⟩⟩⟩⟩⟩⟩⟩⟩⟩⟩⟩
theorem lw_p64 : lw_okq (⟨"MultiValueFileModel", "givesGreatest", "(II)V"⟩, 15) := ⟨⟨by decide +kernel, by decide +kernel⟩, List.mem_of_getElem? (i := 679) (by decide +kernel), List.mem_of_getElem? (i := 1003) (by decide +kernel), List.mem_of_getElem? (i := 1004) (by decide +kernel)⟩
theorem lw_p65 : lw_okq (⟨"MultiValueFileModel", "givesProducts", "(III)V"⟩, 15) := ⟨⟨by decide +kernel, by decide +kernel⟩, List.mem_of_getElem? (i := 679) (by decide +kernel), List.mem_of_getElem? (i := 1007) (by decide +kernel), List.mem_of_getElem? (i := 1008) (by decide +kernel)⟩
theorem lw_p66 : lw_okq (⟨"MultiValueFileModel", "laysIn", "(IIZ)V"⟩, 15) := ⟨⟨by decide +kernel, by decide +kernel⟩, List.mem_of_getElem? (i := 679) (by decide +kernel), List.mem_of_getElem? (i := 1014) (by decide +kernel), List.mem_of_getElem? (i := 1015) (by decide +kernel)⟩
theorem lw_p67 : lw_okq (⟨"MultiValueFileModel", "sizeOf", "(I)I"⟩, 15) := ⟨⟨by decide +kernel, by decide +kernel⟩, List.mem_of_getElem? (i := 679) (by decide +kernel), List.mem_of_getElem? (i := 1018) (by decide +kernel), List.mem_of_getElem? (i := 1019) (by decide +kernel)⟩
theorem lw_p68 : lw_okq (⟨"MultiValueFileModel", "isIn", "(II)Z"⟩, 15) := ⟨⟨by decide +kernel, by decide +kernel⟩, List.mem_of_getElem? (i := 679) (by decide +kernel), List.mem_of_getElem? (i := 1022) (by decide +kernel), List.mem_of_getElem? (i := 1023) (by decide +kernel)⟩
theorem lw_p69 : lw_okq (⟨"MultiValueFileModel", "goCombine", "(IIII)I"⟩, 15) := ⟨⟨by decide +kernel, by decide +kernel⟩, List.mem_of_getElem? (i := 679) (by decide +kernel), List.mem_of_getElem? (i := 1030) (by decide +kernel), List.mem_of_getElem? (i := 1031) (by decide +kernel)⟩
theorem lw_p70 : lw_okq (⟨"MultiValueFileModel", "goClear", "(I)I"⟩, 15) := ⟨⟨by decide +kernel, by decide +kernel⟩, List.mem_of_getElem? (i := 679) (by decide +kernel), List.mem_of_getElem? (i := 1038) (by decide +kernel), List.mem_of_getElem? (i := 1039) (by decide +kernel)⟩
theorem lw_p71 : lw_okq (⟨"MultiValueFileModel", "laysEntries", "(I)I"⟩, 15) := ⟨⟨by decide +kernel, by decide +kernel⟩, List.mem_of_getElem? (i := 679) (by decide +kernel), List.mem_of_getElem? (i := 1102) (by decide +kernel), List.mem_of_getElem? (i := 1103) (by decide +kernel)⟩
theorem lw_p72 : lw_okq (⟨"MultiValueFileModel", "isAhead", "(IIZ)Z"⟩, 15) := ⟨⟨by decide +kernel, by decide +kernel⟩, List.mem_of_getElem? (i := 679) (by decide +kernel), List.mem_of_getElem? (i := 1110) (by decide +kernel), List.mem_of_getElem? (i := 1111) (by decide +kernel)⟩
theorem lw_p73 : lw_okq (⟨"MultiValueFileModel", "sumIn", "(II)I"⟩, 15) := ⟨⟨by decide +kernel, by decide +kernel⟩, List.mem_of_getElem? (i := 679) (by decide +kernel), List.mem_of_getElem? (i := 1118) (by decide +kernel), List.mem_of_getElem? (i := 1119) (by decide +kernel)⟩
def lw_privs_5 : List (MethodName × Nat) := [(⟨"MultiValueFileModel", "givesGreatest", "(II)V"⟩, 15), (⟨"MultiValueFileModel", "givesProducts", "(III)V"⟩, 15), (⟨"MultiValueFileModel", "laysIn", "(IIZ)V"⟩, 15), (⟨"MultiValueFileModel", "sizeOf", "(I)I"⟩, 15), (⟨"MultiValueFileModel", "isIn", "(II)Z"⟩, 15), (⟨"MultiValueFileModel", "goCombine", "(IIII)I"⟩, 15), (⟨"MultiValueFileModel", "goClear", "(I)I"⟩, 15), (⟨"MultiValueFileModel", "laysEntries", "(I)I"⟩, 15), (⟨"MultiValueFileModel", "isAhead", "(IIZ)Z"⟩, 15), (⟨"MultiValueFileModel", "sumIn", "(II)I"⟩, 15)]
theorem lw_r5 : ∀ q ∈ lw_privs_5, lw_okq q := List.forall_mem_cons.mpr ⟨lw_p64, List.forall_mem_cons.mpr ⟨lw_p65, List.forall_mem_cons.mpr ⟨lw_p66, List.forall_mem_cons.mpr ⟨lw_p67, List.forall_mem_cons.mpr ⟨lw_p68, List.forall_mem_cons.mpr ⟨lw_p69, List.forall_mem_cons.mpr ⟨lw_p70, List.forall_mem_cons.mpr ⟨lw_p71, List.forall_mem_cons.mpr ⟨lw_p72, List.forall_mem_cons.mpr ⟨lw_p73, fun _ h => absurd h List.not_mem_nil⟩⟩⟩⟩⟩⟩⟩⟩⟩⟩
def lw_privs : List (MethodName × Nat) := lw_privs_1 ++ (lw_privs_2 ++ (lw_privs_3 ++ (lw_privs_4 ++ (lw_privs_5))))
def lw_tbl : List Cond := k2_sels lw_privs ++ tables_1
theorem lw_privs_ok : ∀ q ∈ lw_privs, lw_okq q := by
  show ∀ q ∈ lw_privs_1 ++ (lw_privs_2 ++ (lw_privs_3 ++ (lw_privs_4 ++ (lw_privs_5)))), lw_okq q
  exact List.forall_mem_append.mpr ⟨lw_r1, List.forall_mem_append.mpr ⟨lw_r2, List.forall_mem_append.mpr ⟨lw_r3, List.forall_mem_append.mpr ⟨lw_r4, lw_r5⟩⟩⟩⟩
/-- the streams that the claim lets the run draw from -/
abbrev lw_cs : List Choice := [Jvm.Choice.named "NaN.bits"]
theorem lw_bits : nanBits ∈ lw_cs := by first | decide | exact List.mem_cons_self | simp [lw_cs, nanBits]
end
section
def RX0 : String := "MultiValueFile$ExplodedList"
def TX0 : u_T := fun k => match k with
  | 0 => ("MultiValueFile$ExplodedList", "numbers", "[I", true)
  | 1 => ("MultiValueFile$ExplodedList", "ids", "[I", true)
  | 2 => ("MultiValueFile$ExplodedList", "places", "[I", true)
  | 3 => ("MultiValueFile$ExplodedList", "size", "I", false)
  | _ => ("MultiValueFile$ExplodedList", "isDescending", "Z", false)
def tyX0 : Nat → FieldType := fun k => match k with
  | 0 => .array .int
  | 1 => .array .int
  | 2 => .array .int
  | 3 => .int
  | _ => .boolean
abbrev wsX00 : List Cond := u_ws RX0 TX0 5
theorem nmX0 : ∀ a, a < 5 → ∀ b, b < 5 → a ≠ b → (TX0 a).2.1 ≠ (TX0 b).2.1 := by decide +kernel
theorem tyX0_ok : ∀ k, k < 5 → parseFieldDescriptor (TX0 k).2.2.1 = some (tyX0 k) := by decide +kernel
abbrev cX0_init : ByteArray := prog_2_method_1_code
def yX0_init : MethodName := ⟨RX0, "<init>", "()V"⟩
abbrev cX0_begin : ByteArray := prog_2_method_2_code
def yX0_begin : MethodName := ⟨RX0, "begin", "(Z)V"⟩
abbrev cX0_add : ByteArray := prog_2_method_3_code
def yX0_add : MethodName := ⟨RX0, "add", "(III)V"⟩
abbrev cX0_isBehind : ByteArray := prog_2_method_4_code
def yX0_isBehind : MethodName := ⟨RX0, "isBehind", "(II)Z"⟩
abbrev cX0_put : ByteArray := prog_2_method_5_code
def yX0_put : MethodName := ⟨RX0, "put", "(IIII)V"⟩
def RX1 : String := "MultiValueFile$FileRecord"
def TX1 : u_T := fun k => match k with
  | 0 => ("MultiValueFile$FileRecord", "id", "I", false)
  | 1 => ("MultiValueFile$FileRecord", "lockedBy", "I", false)
  | 2 => ("MultiValueFile$FileRecord", "valueCounts", "[I", true)
  | 3 => ("MultiValueFile$FileRecord", "subCounts", "[I", true)
  | _ => ("MultiValueFile$FileRecord", "subs", "[I", true)
def tyX1 : Nat → FieldType := fun k => match k with
  | 0 => .int
  | 1 => .int
  | 2 => .array .int
  | 3 => .array .int
  | _ => .array .int
abbrev wsX10 : List Cond := u_ws RX1 TX1 5
theorem nmX1 : ∀ a, a < 5 → ∀ b, b < 5 → a ≠ b → (TX1 a).2.1 ≠ (TX1 b).2.1 := by decide +kernel
theorem tyX1_ok : ∀ k, k < 5 → parseFieldDescriptor (TX1 k).2.2.1 = some (tyX1 k) := by decide +kernel
abbrev cX1_init : ByteArray := prog_3_method_1_code
def yX1_init : MethodName := ⟨RX1, "<init>", "()V"⟩
abbrev cX1_begin : ByteArray := prog_3_method_2_code
def yX1_begin : MethodName := ⟨RX1, "begin", "(I)V"⟩
abbrev cX1_emptyFields : ByteArray := prog_3_method_3_code
def yX1_emptyFields : MethodName := ⟨RX1, "emptyFields", "()V"⟩
abbrev cX1_copyRecord : ByteArray := prog_3_method_4_code
def yX1_copyRecord : MethodName := ⟨RX1, "copyRecord", "(LMultiValueFile$FileRecord;)V"⟩
abbrev cX1_copyFields : ByteArray := prog_3_method_5_code
def yX1_copyFields : MethodName := ⟨RX1, "copyFields", "(LMultiValueFile$FileRecord;)V"⟩
abbrev cX1_isOpenTo : ByteArray := prog_3_method_6_code
def yX1_isOpenTo : MethodName := ⟨RX1, "isOpenTo", "(I)Z"⟩
abbrev cX1_hasValue : ByteArray := prog_3_method_7_code
def yX1_hasValue : MethodName := ⟨RX1, "hasValue", "(II)Z"⟩
abbrev cX1_hasSub : ByteArray := prog_3_method_8_code
def yX1_hasSub : MethodName := ⟨RX1, "hasSub", "(III)Z"⟩
abbrev cX1_hasPart : ByteArray := prog_3_method_9_code
def yX1_hasPart : MethodName := ⟨RX1, "hasPart", "(III)Z"⟩
abbrev cX1_hasRoomPlace : ByteArray := prog_3_method_10_code
def yX1_hasRoomPlace : MethodName := ⟨RX1, "hasRoomPlace", "(III)Z"⟩
abbrev cX1_valueCount : ByteArray := prog_3_method_11_code
def yX1_valueCount : MethodName := ⟨RX1, "valueCount", "(I)I"⟩
abbrev cX1_subCount : ByteArray := prog_3_method_12_code
def yX1_subCount : MethodName := ⟨RX1, "subCount", "(II)I"⟩
abbrev cX1_allSubCount : ByteArray := prog_3_method_13_code
def yX1_allSubCount : MethodName := ⟨RX1, "allSubCount", "()I"⟩
abbrev cX1_numberOf : ByteArray := prog_3_method_14_code
def yX1_numberOf : MethodName := ⟨RX1, "numberOf", "(III)I"⟩
abbrev cX1_setNumber : ByteArray := prog_3_method_15_code
def yX1_setNumber : MethodName := ⟨RX1, "setNumber", "(IIII)V"⟩
abbrev cX1_addValue : ByteArray := prog_3_method_16_code
def yX1_addValue : MethodName := ⟨RX1, "addValue", "(III)V"⟩
abbrev cX1_addSub : ByteArray := prog_3_method_17_code
def yX1_addSub : MethodName := ⟨RX1, "addSub", "(IIII)V"⟩
abbrev cX1_dropValue : ByteArray := prog_3_method_18_code
def yX1_dropValue : MethodName := ⟨RX1, "dropValue", "(II)V"⟩
abbrev cX1_dropSub : ByteArray := prog_3_method_19_code
def yX1_dropSub : MethodName := ⟨RX1, "dropSub", "(III)V"⟩
abbrev cX1_moveValue : ByteArray := prog_3_method_20_code
def yX1_moveValue : MethodName := ⟨RX1, "moveValue", "(III)V"⟩
abbrev cX1_giveSubs : ByteArray := prog_3_method_21_code
def yX1_giveSubs : MethodName := ⟨RX1, "giveSubs", "(ILMultiValueFile$Sequence;)V"⟩
abbrev cX1_giveSum : ByteArray := prog_3_method_22_code
def yX1_giveSum : MethodName := ⟨RX1, "giveSum", "(ILMultiValueFile$Sequence;)V"⟩
abbrev cX1_giveGreatest : ByteArray := prog_3_method_23_code
def yX1_giveGreatest : MethodName := ⟨RX1, "giveGreatest", "(ILMultiValueFile$Sequence;)V"⟩
abbrev cX1_giveProducts : ByteArray := prog_3_method_24_code
def yX1_giveProducts : MethodName := ⟨RX1, "giveProducts", "(IILMultiValueFile$Sequence;)V"⟩
def RX2 : String := "MultiValueFile$Sequence"
def TX2 : u_T := fun k => match k with
  | 0 => ("MultiValueFile$Sequence", "row", "[I", true)
  | _ => ("MultiValueFile$Sequence", "size", "I", false)
def tyX2 : Nat → FieldType := fun k => match k with
  | 0 => .array .int
  | _ => .int
abbrev wsX20 : List Cond := u_ws RX2 TX2 2
theorem nmX2 : ∀ a, a < 2 → ∀ b, b < 2 → a ≠ b → (TX2 a).2.1 ≠ (TX2 b).2.1 := by decide +kernel
theorem tyX2_ok : ∀ k, k < 2 → parseFieldDescriptor (TX2 k).2.2.1 = some (tyX2 k) := by decide +kernel
abbrev cX2_init : ByteArray := prog_4_method_1_code
def yX2_init : MethodName := ⟨RX2, "<init>", "()V"⟩
abbrev cX2_add : ByteArray := prog_4_method_2_code
def yX2_add : MethodName := ⟨RX2, "add", "(I)V"⟩
abbrev cX2_at : ByteArray := prog_4_method_3_code
def yX2_at : MethodName := ⟨RX2, "at", "(I)I"⟩
abbrev cX2_sum : ByteArray := prog_4_method_4_code
def yX2_sum : MethodName := ⟨RX2, "sum", "()I"⟩
def RX3 : String := "MultiValueFile$Signs"
def TX3 : u_T := fun k => match k with
  | 0 => ("MultiValueFile$Signs", "row", "[C", true)
  | _ => ("MultiValueFile$Signs", "length", "I", false)
def tyX3 : Nat → FieldType := fun k => match k with
  | 0 => .array .char
  | _ => .int
abbrev wsX30 : List Cond := u_ws RX3 TX3 2
theorem nmX3 : ∀ a, a < 2 → ∀ b, b < 2 → a ≠ b → (TX3 a).2.1 ≠ (TX3 b).2.1 := by decide +kernel
theorem tyX3_ok : ∀ k, k < 2 → parseFieldDescriptor (TX3 k).2.2.1 = some (tyX3 k) := by decide +kernel
abbrev cX3_init : ByteArray := prog_5_method_1_code
def yX3_init : MethodName := ⟨RX3, "<init>", "(I)V"⟩
abbrev cX3_put : ByteArray := prog_5_method_2_code
def yX3_put : MethodName := ⟨RX3, "put", "(I)V"⟩
abbrev cX3_putNumber : ByteArray := prog_5_method_3_code
def yX3_putNumber : MethodName := ⟨RX3, "putNumber", "(I)V"⟩
abbrev cX3_at : ByteArray := prog_5_method_4_code
def yX3_at : MethodName := ⟨RX3, "at", "(I)I"⟩
def RX4 : String := "MultiValueFile$State"
def TX4 : u_T := fun k => match k with
  | 0 => ("MultiValueFile$State", "records", "[LMultiValueFile$FileRecord;", true)
  | 1 => ("MultiValueFile$State", "recordCount", "I", false)
  | 2 => ("MultiValueFile$State", "isAssociated", "[Z", true)
  | 3 => ("MultiValueFile$State", "kinds", "[I", true)
  | 4 => ("MultiValueFile$State", "firsts", "[I", true)
  | 5 => ("MultiValueFile$State", "seconds", "[I", true)
  | _ => ("MultiValueFile$State", "listed", "[Z", true)
def tyX4 : Nat → FieldType := fun k => match k with
  | 0 => .array (.object "MultiValueFile$FileRecord")
  | 1 => .int
  | 2 => .array .boolean
  | 3 => .array .int
  | 4 => .array .int
  | 5 => .array .int
  | _ => .array .boolean
abbrev wsX40 : List Cond := u_ws RX4 TX4 7
theorem nmX4 : ∀ a, a < 7 → ∀ b, b < 7 → a ≠ b → (TX4 a).2.1 ≠ (TX4 b).2.1 := by decide +kernel
theorem tyX4_ok : ∀ k, k < 7 → parseFieldDescriptor (TX4 k).2.2.1 = some (tyX4 k) := by decide +kernel
abbrev cX4_init : ByteArray := prog_6_method_1_code
def yX4_init : MethodName := ⟨RX4, "<init>", "()V"⟩
abbrev cX4_copyState : ByteArray := prog_6_method_2_code
def yX4_copyState : MethodName := ⟨RX4, "copyState", "(LMultiValueFile$State;)V"⟩
abbrev cX4_find : ByteArray := prog_6_method_3_code
def yX4_find : MethodName := ⟨RX4, "find", "(I)LMultiValueFile$FileRecord;"⟩
abbrev cX4_addRecord : ByteArray := prog_6_method_4_code
def yX4_addRecord : MethodName := ⟨RX4, "addRecord", "(I)V"⟩
abbrev cX4_dropRecord : ByteArray := prog_6_method_5_code
def yX4_dropRecord : MethodName := ⟨RX4, "dropRecord", "(I)V"⟩
abbrev cX4_lockCount : ByteArray := prog_6_method_6_code
def yX4_lockCount : MethodName := ⟨RX4, "lockCount", "(I)I"⟩
abbrev cX4_associatedCount : ByteArray := prog_6_method_7_code
def yX4_associatedCount : MethodName := ⟨RX4, "associatedCount", "()I"⟩
abbrev cX4_lineCount : ByteArray := prog_6_method_8_code
def yX4_lineCount : MethodName := ⟨RX4, "lineCount", "(LMultiValueFile$FileRecord;)I"⟩
abbrev cX4_setColumn : ByteArray := prog_6_method_9_code
def yX4_setColumn : MethodName := ⟨RX4, "setColumn", "(IIII)V"⟩
abbrev cX4_gather : ByteArray := prog_6_method_10_code
def yX4_gather : MethodName := ⟨RX4, "gather", "(LMultiValueFile$FileRecord;ILMultiValueFile$Sequence;)V"⟩
abbrev cX4_isListed : ByteArray := prog_6_method_11_code
def yX4_isListed : MethodName := ⟨RX4, "isListed", "(II)Z"⟩
abbrev cX4_setListed : ByteArray := prog_6_method_12_code
def yX4_setListed : MethodName := ⟨RX4, "setListed", "(IIZ)V"⟩
abbrev cX4_emptyList : ByteArray := prog_6_method_13_code
def yX4_emptyList : MethodName := ⟨RX4, "emptyList", "(I)V"⟩
abbrev cX4_listedCount : ByteArray := prog_6_method_14_code
def yX4_listedCount : MethodName := ⟨RX4, "listedCount", "(I)I"⟩
def RX5 : String := "MultiValueFile$TextReader"
def TX5 : u_T := fun k => match k with
  | 0 => ("MultiValueFile$TextReader", "result", "LMultiValueFile$FileRecord;", true)
  | 1 => ("MultiValueFile$TextReader", "stage", "I", false)
  | 2 => ("MultiValueFile$TextReader", "field", "I", false)
  | 3 => ("MultiValueFile$TextReader", "number", "I", false)
  | _ => ("MultiValueFile$TextReader", "isNegative", "Z", false)
def tyX5 : Nat → FieldType := fun k => match k with
  | 0 => .object "MultiValueFile$FileRecord"
  | 1 => .int
  | 2 => .int
  | 3 => .int
  | _ => .boolean
abbrev wsX50 : List Cond := u_ws RX5 TX5 5
theorem nmX5 : ∀ a, a < 5 → ∀ b, b < 5 → a ≠ b → (TX5 a).2.1 ≠ (TX5 b).2.1 := by decide +kernel
theorem tyX5_ok : ∀ k, k < 5 → parseFieldDescriptor (TX5 k).2.2.1 = some (tyX5 k) := by decide +kernel
abbrev cX5_init : ByteArray := prog_7_method_1_code
def yX5_init : MethodName := ⟨RX5, "<init>", "()V"⟩
abbrev cX5_read : ByteArray := prog_7_method_2_code
def yX5_read : MethodName := ⟨RX5, "read", "(LMultiValueFile$Signs;)I"⟩
abbrev cX5_isComplete : ByteArray := prog_7_method_3_code
def yX5_isComplete : MethodName := ⟨RX5, "isComplete", "()Z"⟩
abbrev cX5_isNumberOver : ByteArray := prog_7_method_4_code
def yX5_isNumberOver : MethodName := ⟨RX5, "isNumberOver", "()Z"⟩
abbrev cX5_takes : ByteArray := prog_7_method_5_code
def yX5_takes : MethodName := ⟨RX5, "takes", "(I)Z"⟩
abbrev cX5_takesMinus : ByteArray := prog_7_method_6_code
def yX5_takesMinus : MethodName := ⟨RX5, "takesMinus", "()Z"⟩
abbrev cX5_takesDigit : ByteArray := prog_7_method_7_code
def yX5_takesDigit : MethodName := ⟨RX5, "takesDigit", "(I)Z"⟩
abbrev cX5_beginNumber : ByteArray := prog_7_method_8_code
def yX5_beginNumber : MethodName := ⟨RX5, "beginNumber", "()V"⟩
abbrev cX5_takesSlash : ByteArray := prog_7_method_9_code
def yX5_takesSlash : MethodName := ⟨RX5, "takesSlash", "()Z"⟩
abbrev cX5_takesBracket : ByteArray := prog_7_method_10_code
def yX5_takesBracket : MethodName := ⟨RX5, "takesBracket", "()Z"⟩
abbrev cX5_takesCaret : ByteArray := prog_7_method_11_code
def yX5_takesCaret : MethodName := ⟨RX5, "takesCaret", "()Z"⟩
abbrev cX5_lastValue : ByteArray := prog_7_method_12_code
def yX5_lastValue : MethodName := ⟨RX5, "lastValue", "()I"⟩
abbrev cX5_lastSub : ByteArray := prog_7_method_13_code
def yX5_lastSub : MethodName := ⟨RX5, "lastSub", "()I"⟩
def RX6 : String := "MultiValueFile"
def TX6 : u_T := fun k => match k with
  | 0 => ("MultiValueFile", "now", "LMultiValueFile$State;", true)
  | 1 => ("MultiValueFile", "past", "[LMultiValueFile$State;", true)
  | 2 => ("MultiValueFile", "pastSize", "I", false)
  | 3 => ("MultiValueFile", "text", "LMultiValueFile$Signs;", true)
  | 4 => ("MultiValueFile", "printedText", "LMultiValueFile$Signs;", true)
  | 5 => ("MultiValueFile", "reader", "LMultiValueFile$TextReader;", true)
  | 6 => ("MultiValueFile", "sequence", "LMultiValueFile$Sequence;", true)
  | _ => ("MultiValueFile", "explodedList", "LMultiValueFile$ExplodedList;", true)
def tyX6 : Nat → FieldType := fun k => match k with
  | 0 => .object "MultiValueFile$State"
  | 1 => .array (.object "MultiValueFile$State")
  | 2 => .int
  | 3 => .object "MultiValueFile$Signs"
  | 4 => .object "MultiValueFile$Signs"
  | 5 => .object "MultiValueFile$TextReader"
  | 6 => .object "MultiValueFile$Sequence"
  | _ => .object "MultiValueFile$ExplodedList"
abbrev wsX60 : List Cond := u_ws RX6 TX6 8
theorem nmX6 : ∀ a, a < 8 → ∀ b, b < 8 → a ≠ b → (TX6 a).2.1 ≠ (TX6 b).2.1 := by decide +kernel
theorem tyX6_ok : ∀ k, k < 8 → parseFieldDescriptor (TX6 k).2.2.1 = some (tyX6 k) := by decide +kernel
abbrev cX6_init : ByteArray := prog_1_method_1_code
def yX6_init : MethodName := ⟨RX6, "<init>", "()V"⟩
abbrev cX6_create : ByteArray := prog_1_method_2_code
def yX6_create : MethodName := ⟨RX6, "create", "(I)I"⟩
abbrev cX6_delete : ByteArray := prog_1_method_3_code
def yX6_delete : MethodName := ⟨RX6, "delete", "(II)I"⟩
abbrev cX6_lock : ByteArray := prog_1_method_4_code
def yX6_lock : MethodName := ⟨RX6, "lock", "(II)I"⟩
abbrev cX6_unlock : ByteArray := prog_1_method_5_code
def yX6_unlock : MethodName := ⟨RX6, "unlock", "(II)I"⟩
abbrev cX6_insert : ByteArray := prog_1_method_6_code
def yX6_insert : MethodName := ⟨RX6, "insert", "(IIIIII)I"⟩
abbrev cX6_insertValue : ByteArray := prog_1_method_7_code
def yX6_insertValue : MethodName := ⟨RX6, "insertValue", "(LMultiValueFile$FileRecord;III)I"⟩
abbrev cX6_insertSub : ByteArray := prog_1_method_8_code
def yX6_insertSub : MethodName := ⟨RX6, "insertSub", "(LMultiValueFile$FileRecord;IIII)I"⟩
abbrev cX6_change : ByteArray := prog_1_method_9_code
def yX6_change : MethodName := ⟨RX6, "change", "(IIIIII)I"⟩
abbrev cX6_remove : ByteArray := prog_1_method_10_code
def yX6_remove : MethodName := ⟨RX6, "remove", "(IIIII)I"⟩
abbrev cX6_removeLine : ByteArray := prog_1_method_11_code
def yX6_removeLine : MethodName := ⟨RX6, "removeLine", "(III)I"⟩
abbrev cX6_load : ByteArray := prog_1_method_12_code
def yX6_load : MethodName := ⟨RX6, "load", "(II)I"⟩
abbrev cX6_associate : ByteArray := prog_1_method_13_code
def yX6_associate : MethodName := ⟨RX6, "associate", "(IZ)I"⟩
abbrev cX6_define : ByteArray := prog_1_method_14_code
def yX6_define : MethodName := ⟨RX6, "define", "(IIII)I"⟩
abbrev cX6_select : ByteArray := prog_1_method_15_code
def yX6_select : MethodName := ⟨RX6, "select", "(IIIZI)I"⟩
abbrev cX6_isSelected : ByteArray := prog_1_method_16_code
def yX6_isSelected : MethodName := ⟨RX6, "isSelected", "(IIZ)Z"⟩
abbrev cX6_passes : ByteArray := prog_1_method_17_code
def yX6_passes : MethodName := ⟨RX6, "passes", "(III)Z"⟩
abbrev cX6_combine : ByteArray := prog_1_method_18_code
def yX6_combine : MethodName := ⟨RX6, "combine", "(IIII)I"⟩
abbrev cX6_isCombined : ByteArray := prog_1_method_19_code
def yX6_isCombined : MethodName := ⟨RX6, "isCombined", "(IZZ)Z"⟩
abbrev cX6_clearList : ByteArray := prog_1_method_20_code
def yX6_clearList : MethodName := ⟨RX6, "clearList", "(I)I"⟩
abbrev cX6_append : ByteArray := prog_1_method_21_code
def yX6_append : MethodName := ⟨RX6, "append", "(I)I"⟩
abbrev cX6_clearText : ByteArray := prog_1_method_22_code
def yX6_clearText : MethodName := ⟨RX6, "clearText", "()I"⟩
abbrev cX6_fault : ByteArray := prog_1_method_23_code
def yX6_fault : MethodName := ⟨RX6, "fault", "()I"⟩
abbrev cX6_print : ByteArray := prog_1_method_24_code
def yX6_print : MethodName := ⟨RX6, "print", "(I)I"⟩
abbrev cX6_printField : ByteArray := prog_1_method_25_code
def yX6_printField : MethodName := ⟨RX6, "printField", "(LMultiValueFile$FileRecord;I)V"⟩
abbrev cX6_printed : ByteArray := prog_1_method_26_code
def yX6_printed : MethodName := ⟨RX6, "printed", "(I)I"⟩
abbrev cX6_undo : ByteArray := prog_1_method_27_code
def yX6_undo : MethodName := ⟨RX6, "undo", "()I"⟩
abbrev cX6_remember : ByteArray := prog_1_method_28_code
def yX6_remember : MethodName := ⟨RX6, "remember", "()V"⟩
abbrev cX6_dropOldest : ByteArray := prog_1_method_29_code
def yX6_dropOldest : MethodName := ⟨RX6, "dropOldest", "()V"⟩
abbrev cX6_records : ByteArray := prog_1_method_30_code
def yX6_records : MethodName := ⟨RX6, "records", "()I"⟩
abbrev cX6_recordAt : ByteArray := prog_1_method_31_code
def yX6_recordAt : MethodName := ⟨RX6, "recordAt", "(I)I"⟩
abbrev cX6_locker : ByteArray := prog_1_method_32_code
def yX6_locker : MethodName := ⟨RX6, "locker", "(I)I"⟩
abbrev cX6_values : ByteArray := prog_1_method_33_code
def yX6_values : MethodName := ⟨RX6, "values", "(II)I"⟩
abbrev cX6_subvalues : ByteArray := prog_1_method_34_code
def yX6_subvalues : MethodName := ⟨RX6, "subvalues", "(III)I"⟩
abbrev cX6_get : ByteArray := prog_1_method_35_code
def yX6_get : MethodName := ⟨RX6, "get", "(IIII)I"⟩
abbrev cX6_lines : ByteArray := prog_1_method_36_code
def yX6_lines : MethodName := ⟨RX6, "lines", "(I)I"⟩
abbrev cX6_locate : ByteArray := prog_1_method_37_code
def yX6_locate : MethodName := ⟨RX6, "locate", "(III)I"⟩
abbrev cX6_column : ByteArray := prog_1_method_38_code
def yX6_column : MethodName := ⟨RX6, "column", "(II)I"⟩
abbrev cX6_associated : ByteArray := prog_1_method_39_code
def yX6_associated : MethodName := ⟨RX6, "associated", "(I)I"⟩
abbrev cX6_listSize : ByteArray := prog_1_method_40_code
def yX6_listSize : MethodName := ⟨RX6, "listSize", "(I)I"⟩
abbrev cX6_listAt : ByteArray := prog_1_method_41_code
def yX6_listAt : MethodName := ⟨RX6, "listAt", "(II)I"⟩
abbrev cX6_numbers : ByteArray := prog_1_method_42_code
def yX6_numbers : MethodName := ⟨RX6, "numbers", "(II)I"⟩
abbrev cX6_numberAt : ByteArray := prog_1_method_43_code
def yX6_numberAt : MethodName := ⟨RX6, "numberAt", "(III)I"⟩
abbrev cX6_exploded : ByteArray := prog_1_method_44_code
def yX6_exploded : MethodName := ⟨RX6, "exploded", "(I)I"⟩
abbrev cX6_explodedAt : ByteArray := prog_1_method_45_code
def yX6_explodedAt : MethodName := ⟨RX6, "explodedAt", "(IZII)I"⟩
abbrev cX6_total : ByteArray := prog_1_method_46_code
def yX6_total : MethodName := ⟨RX6, "total", "(II)I"⟩
abbrev cX6_mean : ByteArray := prog_1_method_47_code
def yX6_mean : MethodName := ⟨RX6, "mean", "(I)F"⟩
abbrev cX6_repeated : ByteArray := prog_1_method_48_code
def yX6_repeated : MethodName := ⟨RX6, "repeated", "(I)I"⟩
abbrev cX6_entryCount : ByteArray := prog_1_method_49_code
def yX6_entryCount : MethodName := ⟨RX6, "entryCount", "(I)I"⟩
abbrev cX6_sumOf : ByteArray := prog_1_method_50_code
def yX6_sumOf : MethodName := ⟨RX6, "sumOf", "(II)I"⟩
abbrev cX6_explode : ByteArray := prog_1_method_51_code
def yX6_explode : MethodName := ⟨RX6, "explode", "(IZ)V"⟩
abbrev cX6_isBelow : ByteArray := prog_1_method_52_code
def yX6_isBelow : MethodName := ⟨RX6, "isBelow", "(II)Z"⟩
abbrev cX6_isNumber : ByteArray := prog_1_method_53_code
def yX6_isNumber : MethodName := ⟨RX6, "isNumber", "(I)Z"⟩
def RX7 : String := "MultiValueFileModel"
def TX7 : u_T := fun k => match k with
  | 0 => ("MultiValueFileModel", "s", "[I", true)
  | 1 => ("MultiValueFileModel", "before", "[I", true)
  | 2 => ("MultiValueFileModel", "past", "[I", true)
  | 3 => ("MultiValueFileModel", "known", "I", false)
  | 4 => ("MultiValueFileModel", "text", "[I", true)
  | 5 => ("MultiValueFileModel", "length", "I", false)
  | 6 => ("MultiValueFileModel", "paper", "[I", true)
  | 7 => ("MultiValueFileModel", "prints", "I", false)
  | 8 => ("MultiValueFileModel", "spot", "I", false)
  | 9 => ("MultiValueFileModel", "isForm", "Z", false)
  | 10 => ("MultiValueFileModel", "row", "[I", true)
  | 11 => ("MultiValueFileModel", "given", "I", false)
  | 12 => ("MultiValueFileModel", "entry", "[I", true)
  | 13 => ("MultiValueFileModel", "owner", "[I", true)
  | _ => ("MultiValueFileModel", "place", "[I", true)
def tyX7 : Nat → FieldType := fun k => match k with
  | 0 => .array .int
  | 1 => .array .int
  | 2 => .array .int
  | 3 => .int
  | 4 => .array .int
  | 5 => .int
  | 6 => .array .int
  | 7 => .int
  | 8 => .int
  | 9 => .boolean
  | 10 => .array .int
  | 11 => .int
  | 12 => .array .int
  | 13 => .array .int
  | _ => .array .int
abbrev wsX70 : List Cond := u_ws RX7 TX7 15
theorem nmX7 : ∀ a, a < 15 → ∀ b, b < 15 → a ≠ b → (TX7 a).2.1 ≠ (TX7 b).2.1 := by decide +kernel
theorem tyX7_ok : ∀ k, k < 15 → parseFieldDescriptor (TX7 k).2.2.1 = some (tyX7 k) := by decide +kernel
abbrev cX7_init : ByteArray := prog_9_method_1_code
def yX7_init : MethodName := ⟨RX7, "<init>", "()V"⟩
abbrev cX7_in : ByteArray := prog_9_method_3_code
def yX7_in : MethodName := ⟨RX7, "in", "(III)Z"⟩
abbrev cX7_copies : ByteArray := prog_9_method_4_code
def yX7_copies : MethodName := ⟨RX7, "copies", "([II[II)V"⟩
abbrev cX7_begins : ByteArray := prog_9_method_5_code
def yX7_begins : MethodName := ⟨RX7, "begins", "()V"⟩
abbrev cX7_keeps : ByteArray := prog_9_method_6_code
def yX7_keeps : MethodName := ⟨RX7, "keeps", "(I)I"⟩
abbrev cX7_of : ByteArray := prog_9_method_7_code
def yX7_of : MethodName := ⟨RX7, "of", "(II)I"⟩
abbrev cX7_lays : ByteArray := prog_9_method_8_code
def yX7_lays : MethodName := ⟨RX7, "lays", "(III)V"⟩
abbrev cX7_placeOf : ByteArray := prog_9_method_9_code
def yX7_placeOf : MethodName := ⟨RX7, "placeOf", "(I)I"⟩
abbrev cX7_isUser : ByteArray := prog_9_method_10_code
def yX7_isUser : MethodName := ⟨RX7, "isUser", "(I)Z"⟩
abbrev cX7_isField : ByteArray := prog_9_method_11_code
def yX7_isField : MethodName := ⟨RX7, "isField", "(I)Z"⟩
abbrev cX7_isNumber : ByteArray := prog_9_method_12_code
def yX7_isNumber : MethodName := ⟨RX7, "isNumber", "(I)Z"⟩
abbrev cX7_isBarred : ByteArray := prog_9_method_13_code
def yX7_isBarred : MethodName := ⟨RX7, "isBarred", "(II)Z"⟩
abbrev cX7_valuesOf : ByteArray := prog_9_method_14_code
def yX7_valuesOf : MethodName := ⟨RX7, "valuesOf", "(II)I"⟩
abbrev cX7_subsAt : ByteArray := prog_9_method_15_code
def yX7_subsAt : MethodName := ⟨RX7, "subsAt", "(II)I"⟩
abbrev cX7_numberAtCell : ByteArray := prog_9_method_16_code
def yX7_numberAtCell : MethodName := ⟨RX7, "numberAtCell", "(III)I"⟩
abbrev cX7_subsOf : ByteArray := prog_9_method_17_code
def yX7_subsOf : MethodName := ⟨RX7, "subsOf", "(III)I"⟩
abbrev cX7_numberOf : ByteArray := prog_9_method_18_code
def yX7_numberOf : MethodName := ⟨RX7, "numberOf", "(IIII)I"⟩
abbrev cX7_hasValue : ByteArray := prog_9_method_19_code
def yX7_hasValue : MethodName := ⟨RX7, "hasValue", "(III)Z"⟩
abbrev cX7_hasSub : ByteArray := prog_9_method_20_code
def yX7_hasSub : MethodName := ⟨RX7, "hasSub", "(IIII)Z"⟩
abbrev cX7_copiesValue : ByteArray := prog_9_method_21_code
def yX7_copiesValue : MethodName := ⟨RX7, "copiesValue", "(IIII)V"⟩
abbrev cX7_empties : ByteArray := prog_9_method_22_code
def yX7_empties : MethodName := ⟨RX7, "empties", "(III)V"⟩
abbrev cX7_dropsValue : ByteArray := prog_9_method_23_code
def yX7_dropsValue : MethodName := ⟨RX7, "dropsValue", "(III)V"⟩
abbrev cX7_lockedBy : ByteArray := prog_9_method_24_code
def yX7_lockedBy : MethodName := ⟨RX7, "lockedBy", "(I)I"⟩
abbrev cX7_goCreate : ByteArray := prog_9_method_25_code
def yX7_goCreate : MethodName := ⟨RX7, "goCreate", "(I)I"⟩
abbrev cX7_errorOf : ByteArray := prog_9_method_26_code
def yX7_errorOf : MethodName := ⟨RX7, "errorOf", "(II)I"⟩
abbrev cX7_goDelete : ByteArray := prog_9_method_27_code
def yX7_goDelete : MethodName := ⟨RX7, "goDelete", "(II)I"⟩
abbrev cX7_goLock : ByteArray := prog_9_method_28_code
def yX7_goLock : MethodName := ⟨RX7, "goLock", "(II)I"⟩
abbrev cX7_goUnlock : ByteArray := prog_9_method_29_code
def yX7_goUnlock : MethodName := ⟨RX7, "goUnlock", "(II)I"⟩
abbrev cX7_goInsert : ByteArray := prog_9_method_30_code
def yX7_goInsert : MethodName := ⟨RX7, "goInsert", "(IIIII)I"⟩
abbrev cX7_goRemove : ByteArray := prog_9_method_31_code
def yX7_goRemove : MethodName := ⟨RX7, "goRemove", "(IIII)I"⟩
abbrev cX7_inLine : ByteArray := prog_9_method_32_code
def yX7_inLine : MethodName := ⟨RX7, "inLine", "(II)I"⟩
abbrev cX7_create : ByteArray := prog_9_method_33_code
def yX7_create : MethodName := ⟨RX7, "create", "(I)I"⟩
abbrev cX7_delete : ByteArray := prog_9_method_34_code
def yX7_delete : MethodName := ⟨RX7, "delete", "(II)I"⟩
abbrev cX7_lock : ByteArray := prog_9_method_35_code
def yX7_lock : MethodName := ⟨RX7, "lock", "(II)I"⟩
abbrev cX7_unlock : ByteArray := prog_9_method_36_code
def yX7_unlock : MethodName := ⟨RX7, "unlock", "(II)I"⟩
abbrev cX7_insert : ByteArray := prog_9_method_37_code
def yX7_insert : MethodName := ⟨RX7, "insert", "(IIIIII)I"⟩
abbrev cX7_change : ByteArray := prog_9_method_38_code
def yX7_change : MethodName := ⟨RX7, "change", "(IIIIII)I"⟩
abbrev cX7_remove : ByteArray := prog_9_method_39_code
def yX7_remove : MethodName := ⟨RX7, "remove", "(IIIII)I"⟩
abbrev cX7_removeLine : ByteArray := prog_9_method_40_code
def yX7_removeLine : MethodName := ⟨RX7, "removeLine", "(III)I"⟩
abbrev cX7_append : ByteArray := prog_9_method_41_code
def yX7_append : MethodName := ⟨RX7, "append", "(I)I"⟩
abbrev cX7_clearText : ByteArray := prog_9_method_42_code
def yX7_clearText : MethodName := ⟨RX7, "clearText", "()I"⟩
abbrev cX7_here : ByteArray := prog_9_method_43_code
def yX7_here : MethodName := ⟨RX7, "here", "()I"⟩
abbrev cX7_takes : ByteArray := prog_9_method_44_code
def yX7_takes : MethodName := ⟨RX7, "takes", "(Z)V"⟩
abbrev cX7_takesNumber : ByteArray := prog_9_method_45_code
def yX7_takesNumber : MethodName := ⟨RX7, "takesNumber", "()I"⟩
abbrev cX7_takesValue : ByteArray := prog_9_method_46_code
def yX7_takesValue : MethodName := ⟨RX7, "takesValue", "(III)V"⟩
abbrev cX7_takesField : ByteArray := prog_9_method_47_code
def yX7_takesField : MethodName := ⟨RX7, "takesField", "(II)V"⟩
abbrev cX7_takesAll : ByteArray := prog_9_method_48_code
def yX7_takesAll : MethodName := ⟨RX7, "takesAll", "(I)Z"⟩
abbrev cX7_fault : ByteArray := prog_9_method_49_code
def yX7_fault : MethodName := ⟨RX7, "fault", "()I"⟩
abbrev cX7_load : ByteArray := prog_9_method_50_code
def yX7_load : MethodName := ⟨RX7, "load", "(II)I"⟩
abbrev cX7_writes : ByteArray := prog_9_method_51_code
def yX7_writes : MethodName := ⟨RX7, "writes", "(I)V"⟩
abbrev cX7_writesNumber : ByteArray := prog_9_method_52_code
def yX7_writesNumber : MethodName := ⟨RX7, "writesNumber", "(I)V"⟩
abbrev cX7_writesField : ByteArray := prog_9_method_53_code
def yX7_writesField : MethodName := ⟨RX7, "writesField", "(II)V"⟩
abbrev cX7_print : ByteArray := prog_9_method_54_code
def yX7_print : MethodName := ⟨RX7, "print", "(I)I"⟩
abbrev cX7_printed : ByteArray := prog_9_method_55_code
def yX7_printed : MethodName := ⟨RX7, "printed", "(I)I"⟩
abbrev cX7_undo : ByteArray := prog_9_method_56_code
def yX7_undo : MethodName := ⟨RX7, "undo", "()I"⟩
abbrev cX7_isColumn : ByteArray := prog_9_method_57_code
def yX7_isColumn : MethodName := ⟨RX7, "isColumn", "(I)Z"⟩
abbrev cX7_isList : ByteArray := prog_9_method_58_code
def yX7_isList : MethodName := ⟨RX7, "isList", "(I)Z"⟩
abbrev cX7_ofColumn : ByteArray := prog_9_method_59_code
def yX7_ofColumn : MethodName := ⟨RX7, "ofColumn", "(II)I"⟩
abbrev cX7_gives : ByteArray := prog_9_method_60_code
def yX7_gives : MethodName := ⟨RX7, "gives", "(I)V"⟩
abbrev cX7_givesAll : ByteArray := prog_9_method_61_code
def yX7_givesAll : MethodName := ⟨RX7, "givesAll", "(II)V"⟩
abbrev cX7_sumOf : ByteArray := prog_9_method_62_code
def yX7_sumOf : MethodName := ⟨RX7, "sumOf", "(II)I"⟩
abbrev cX7_givesGreatest : ByteArray := prog_9_method_63_code
def yX7_givesGreatest : MethodName := ⟨RX7, "givesGreatest", "(II)V"⟩
abbrev cX7_givesProducts : ByteArray := prog_9_method_64_code
def yX7_givesProducts : MethodName := ⟨RX7, "givesProducts", "(III)V"⟩
abbrev cX7_tells : ByteArray := prog_9_method_65_code
def yX7_tells : MethodName := ⟨RX7, "tells", "(II)I"⟩
abbrev cX7_goAssociate : ByteArray := prog_9_method_66_code
def yX7_goAssociate : MethodName := ⟨RX7, "goAssociate", "(IZ)I"⟩
abbrev cX7_goDefine : ByteArray := prog_9_method_67_code
def yX7_goDefine : MethodName := ⟨RX7, "goDefine", "(IIII)I"⟩
abbrev cX7_isIn : ByteArray := prog_9_method_68_code
def yX7_isIn : MethodName := ⟨RX7, "isIn", "(II)Z"⟩
abbrev cX7_sizeOf : ByteArray := prog_9_method_69_code
def yX7_sizeOf : MethodName := ⟨RX7, "sizeOf", "(I)I"⟩
abbrev cX7_laysIn : ByteArray := prog_9_method_70_code
def yX7_laysIn : MethodName := ⟨RX7, "laysIn", "(IIZ)V"⟩
abbrev cX7_passes : ByteArray := prog_9_method_71_code
def yX7_passes : MethodName := ⟨RX7, "passes", "(III)Z"⟩
abbrev cX7_isSelected : ByteArray := prog_9_method_72_code
def yX7_isSelected : MethodName := ⟨RX7, "isSelected", "(IIIIZ)Z"⟩
abbrev cX7_goSelect : ByteArray := prog_9_method_73_code
def yX7_goSelect : MethodName := ⟨RX7, "goSelect", "(IIIZI)I"⟩
abbrev cX7_goCombine : ByteArray := prog_9_method_74_code
def yX7_goCombine : MethodName := ⟨RX7, "goCombine", "(IIII)I"⟩
abbrev cX7_goClear : ByteArray := prog_9_method_75_code
def yX7_goClear : MethodName := ⟨RX7, "goClear", "(I)I"⟩
abbrev cX7_associate : ByteArray := prog_9_method_76_code
def yX7_associate : MethodName := ⟨RX7, "associate", "(IZ)I"⟩
abbrev cX7_define : ByteArray := prog_9_method_77_code
def yX7_define : MethodName := ⟨RX7, "define", "(IIII)I"⟩
abbrev cX7_select : ByteArray := prog_9_method_78_code
def yX7_select : MethodName := ⟨RX7, "select", "(IIIZI)I"⟩
abbrev cX7_combine : ByteArray := prog_9_method_79_code
def yX7_combine : MethodName := ⟨RX7, "combine", "(IIII)I"⟩
abbrev cX7_clearList : ByteArray := prog_9_method_80_code
def yX7_clearList : MethodName := ⟨RX7, "clearList", "(I)I"⟩
abbrev cX7_records : ByteArray := prog_9_method_81_code
def yX7_records : MethodName := ⟨RX7, "records", "()I"⟩
abbrev cX7_recordAt : ByteArray := prog_9_method_82_code
def yX7_recordAt : MethodName := ⟨RX7, "recordAt", "(I)I"⟩
abbrev cX7_locker : ByteArray := prog_9_method_83_code
def yX7_locker : MethodName := ⟨RX7, "locker", "(I)I"⟩
abbrev cX7_values : ByteArray := prog_9_method_84_code
def yX7_values : MethodName := ⟨RX7, "values", "(II)I"⟩
abbrev cX7_subvalues : ByteArray := prog_9_method_85_code
def yX7_subvalues : MethodName := ⟨RX7, "subvalues", "(III)I"⟩
abbrev cX7_get : ByteArray := prog_9_method_86_code
def yX7_get : MethodName := ⟨RX7, "get", "(IIII)I"⟩
abbrev cX7_lines : ByteArray := prog_9_method_87_code
def yX7_lines : MethodName := ⟨RX7, "lines", "(I)I"⟩
abbrev cX7_locate : ByteArray := prog_9_method_88_code
def yX7_locate : MethodName := ⟨RX7, "locate", "(III)I"⟩
abbrev cX7_column : ByteArray := prog_9_method_89_code
def yX7_column : MethodName := ⟨RX7, "column", "(II)I"⟩
abbrev cX7_associated : ByteArray := prog_9_method_90_code
def yX7_associated : MethodName := ⟨RX7, "associated", "(I)I"⟩
abbrev cX7_listSize : ByteArray := prog_9_method_91_code
def yX7_listSize : MethodName := ⟨RX7, "listSize", "(I)I"⟩
abbrev cX7_listAt : ByteArray := prog_9_method_92_code
def yX7_listAt : MethodName := ⟨RX7, "listAt", "(II)I"⟩
abbrev cX7_numbers : ByteArray := prog_9_method_93_code
def yX7_numbers : MethodName := ⟨RX7, "numbers", "(II)I"⟩
abbrev cX7_numberAt : ByteArray := prog_9_method_94_code
def yX7_numberAt : MethodName := ⟨RX7, "numberAt", "(III)I"⟩
abbrev cX7_laysEntries : ByteArray := prog_9_method_95_code
def yX7_laysEntries : MethodName := ⟨RX7, "laysEntries", "(I)I"⟩
abbrev cX7_exploded : ByteArray := prog_9_method_96_code
def yX7_exploded : MethodName := ⟨RX7, "exploded", "(I)I"⟩
abbrev cX7_isAhead : ByteArray := prog_9_method_97_code
def yX7_isAhead : MethodName := ⟨RX7, "isAhead", "(IIZ)Z"⟩
abbrev cX7_explodedAt : ByteArray := prog_9_method_98_code
def yX7_explodedAt : MethodName := ⟨RX7, "explodedAt", "(IZII)I"⟩
abbrev cX7_sumIn : ByteArray := prog_9_method_99_code
def yX7_sumIn : MethodName := ⟨RX7, "sumIn", "(II)I"⟩
abbrev cX7_total : ByteArray := prog_9_method_100_code
def yX7_total : MethodName := ⟨RX7, "total", "(II)I"⟩
abbrev cX7_mean : ByteArray := prog_9_method_101_code
def yX7_mean : MethodName := ⟨RX7, "mean", "(I)F"⟩
abbrev cX7_repeated : ByteArray := prog_9_method_102_code
def yX7_repeated : MethodName := ⟨RX7, "repeated", "(I)I"⟩
def RL : String := "MultiValueFileLaw"
abbrev cL_law : ByteArray := code
abbrev vwCl : List vw_C := [(RX0, TX0, 5), (RX1, TX1, 5), (RX2, TX2, 2), (RX3, TX3, 2), (RX4, TX4, 7), (RX5, TX5, 5), (RX6, TX6, 8), (RX7, TX7, 15)]
end
section
theorem dL_law_0 : decode cL_law 0 = .ok (.new 7, 3) := by decide +kernel
theorem dL_law_3 : decode cL_law 3 = .ok (.dup, 1) := by decide +kernel
theorem dL_law_4 : decode cL_law 4 = .ok (.invokespecial 9, 3) := by decide +kernel
theorem dL_law_7 : decode cL_law 7 = .ok (.astore_n 1, 1) := by decide +kernel
theorem dL_law_8 : decode cL_law 8 = .ok (.new 10, 3) := by decide +kernel
theorem dL_law_11 : decode cL_law 11 = .ok (.dup, 1) := by decide +kernel
theorem dL_law_12 : decode cL_law 12 = .ok (.invokespecial 12, 3) := by decide +kernel
theorem dL_law_15 : decode cL_law 15 = .ok (.astore_n 2, 1) := by decide +kernel
theorem dL_law_16 : decode cL_law 16 = .ok (.iconst 0, 1) := by decide +kernel
theorem dL_law_17 : decode cL_law 17 = .ok (.istore_n 3, 1) := by decide +kernel
theorem dL_law_18 : decode cL_law 18 = .ok (.iload_n 3, 1) := by decide +kernel
theorem dL_law_19 : decode cL_law 19 = .ok (.aload_n 0, 1) := by decide +kernel
theorem dL_law_20 : decode cL_law 20 = .ok (.arraylength, 1) := by decide +kernel
theorem dL_law_21 : decode cL_law 21 = .ok (.bipush 7, 2) := by decide +kernel
theorem dL_law_23 : decode cL_law 23 = .ok (.isub, 1) := by decide +kernel
theorem dL_law_24 : decode cL_law 24 = .ok (.if_icmp .gt 1605, 3) := by decide +kernel
theorem dL_law_27 : decode cL_law 27 = .ok (.aload_n 0, 1) := by decide +kernel
theorem dL_law_28 : decode cL_law 28 = .ok (.iload_n 3, 1) := by decide +kernel
theorem dL_law_29 : decode cL_law 29 = .ok (.iaload, 1) := by decide +kernel
theorem dL_law_30 : decode cL_law 30 = .ok (.bipush 63, 2) := by decide +kernel
theorem dL_law_32 : decode cL_law 32 = .ok (.iand, 1) := by decide +kernel
theorem dL_law_33 : decode cL_law 33 = .ok (.tableswitch 1590 0 38 #[171, 194, 227, 260, 293, 368, 443, 506, 549, 582, 631, 684, 763, 816, 839, 862, 875, 888, 911, 934, 947, 960, 983, 1006, 1039, 1082, 1135, 1158, 1201, 1234, 1257, 1280, 1313, 1346, 1389, 1412, 1481, 1514, 1567], 171) := by decide +kernel
theorem dL_law_204 : decode cL_law 204 = .ok (.aload_n 1, 1) := by decide +kernel
theorem dL_law_205 : decode cL_law 205 = .ok (.aload_n 0, 1) := by decide +kernel
theorem dL_law_206 : decode cL_law 206 = .ok (.iload_n 3, 1) := by decide +kernel
theorem dL_law_207 : decode cL_law 207 = .ok (.iconst 1, 1) := by decide +kernel
theorem dL_law_208 : decode cL_law 208 = .ok (.iadd, 1) := by decide +kernel
theorem dL_law_209 : decode cL_law 209 = .ok (.iaload, 1) := by decide +kernel
theorem dL_law_210 : decode cL_law 210 = .ok (.invokevirtual 13, 3) := by decide +kernel
theorem dL_law_213 : decode cL_law 213 = .ok (.aload_n 2, 1) := by decide +kernel
theorem dL_law_214 : decode cL_law 214 = .ok (.aload_n 0, 1) := by decide +kernel
theorem dL_law_215 : decode cL_law 215 = .ok (.iload_n 3, 1) := by decide +kernel
theorem dL_law_216 : decode cL_law 216 = .ok (.iconst 1, 1) := by decide +kernel
theorem dL_law_217 : decode cL_law 217 = .ok (.iadd, 1) := by decide +kernel
theorem dL_law_218 : decode cL_law 218 = .ok (.iaload, 1) := by decide +kernel
theorem dL_law_219 : decode cL_law 219 = .ok (.invokevirtual 17, 3) := by decide +kernel
theorem dL_law_222 : decode cL_law 222 = .ok (.if_icmp .eq 1401, 3) := by decide +kernel
theorem dL_law_225 : decode cL_law 225 = .ok (.iconst 0, 1) := by decide +kernel
theorem dL_law_226 : decode cL_law 226 = .ok (.ireturn, 1) := by decide +kernel
theorem dL_law_227 : decode cL_law 227 = .ok (.aload_n 1, 1) := by decide +kernel
theorem dL_law_228 : decode cL_law 228 = .ok (.aload_n 0, 1) := by decide +kernel
theorem dL_law_229 : decode cL_law 229 = .ok (.iload_n 3, 1) := by decide +kernel
theorem dL_law_230 : decode cL_law 230 = .ok (.iconst 1, 1) := by decide +kernel
theorem dL_law_231 : decode cL_law 231 = .ok (.iadd, 1) := by decide +kernel
theorem dL_law_232 : decode cL_law 232 = .ok (.iaload, 1) := by decide +kernel
theorem dL_law_233 : decode cL_law 233 = .ok (.aload_n 0, 1) := by decide +kernel
theorem dL_law_234 : decode cL_law 234 = .ok (.iload_n 3, 1) := by decide +kernel
theorem dL_law_235 : decode cL_law 235 = .ok (.iconst 2, 1) := by decide +kernel
theorem dL_law_236 : decode cL_law 236 = .ok (.iadd, 1) := by decide +kernel
theorem dL_law_237 : decode cL_law 237 = .ok (.iaload, 1) := by decide +kernel
theorem dL_law_238 : decode cL_law 238 = .ok (.invokevirtual 18, 3) := by decide +kernel
theorem dL_law_241 : decode cL_law 241 = .ok (.aload_n 2, 1) := by decide +kernel
theorem dL_law_242 : decode cL_law 242 = .ok (.aload_n 0, 1) := by decide +kernel
theorem dL_law_243 : decode cL_law 243 = .ok (.iload_n 3, 1) := by decide +kernel
theorem dL_law_244 : decode cL_law 244 = .ok (.iconst 1, 1) := by decide +kernel
theorem dL_law_245 : decode cL_law 245 = .ok (.iadd, 1) := by decide +kernel
theorem dL_law_246 : decode cL_law 246 = .ok (.iaload, 1) := by decide +kernel
theorem dL_law_247 : decode cL_law 247 = .ok (.aload_n 0, 1) := by decide +kernel
theorem dL_law_248 : decode cL_law 248 = .ok (.iload_n 3, 1) := by decide +kernel
theorem dL_law_249 : decode cL_law 249 = .ok (.iconst 2, 1) := by decide +kernel
theorem dL_law_250 : decode cL_law 250 = .ok (.iadd, 1) := by decide +kernel
theorem dL_law_251 : decode cL_law 251 = .ok (.iaload, 1) := by decide +kernel
theorem dL_law_252 : decode cL_law 252 = .ok (.invokevirtual 22, 3) := by decide +kernel
theorem dL_law_255 : decode cL_law 255 = .ok (.if_icmp .eq 1368, 3) := by decide +kernel
theorem dL_law_258 : decode cL_law 258 = .ok (.iconst 0, 1) := by decide +kernel
theorem dL_law_259 : decode cL_law 259 = .ok (.ireturn, 1) := by decide +kernel
theorem dL_law_260 : decode cL_law 260 = .ok (.aload_n 1, 1) := by decide +kernel
theorem dL_law_261 : decode cL_law 261 = .ok (.aload_n 0, 1) := by decide +kernel
theorem dL_law_262 : decode cL_law 262 = .ok (.iload_n 3, 1) := by decide +kernel
theorem dL_law_263 : decode cL_law 263 = .ok (.iconst 1, 1) := by decide +kernel
theorem dL_law_264 : decode cL_law 264 = .ok (.iadd, 1) := by decide +kernel
theorem dL_law_265 : decode cL_law 265 = .ok (.iaload, 1) := by decide +kernel
theorem dL_law_266 : decode cL_law 266 = .ok (.aload_n 0, 1) := by decide +kernel
theorem dL_law_267 : decode cL_law 267 = .ok (.iload_n 3, 1) := by decide +kernel
theorem dL_law_268 : decode cL_law 268 = .ok (.iconst 2, 1) := by decide +kernel
theorem dL_law_269 : decode cL_law 269 = .ok (.iadd, 1) := by decide +kernel
theorem dL_law_270 : decode cL_law 270 = .ok (.iaload, 1) := by decide +kernel
theorem dL_law_271 : decode cL_law 271 = .ok (.invokevirtual 23, 3) := by decide +kernel
theorem dL_law_274 : decode cL_law 274 = .ok (.aload_n 2, 1) := by decide +kernel
theorem dL_law_275 : decode cL_law 275 = .ok (.aload_n 0, 1) := by decide +kernel
theorem dL_law_276 : decode cL_law 276 = .ok (.iload_n 3, 1) := by decide +kernel
theorem dL_law_277 : decode cL_law 277 = .ok (.iconst 1, 1) := by decide +kernel
theorem dL_law_278 : decode cL_law 278 = .ok (.iadd, 1) := by decide +kernel
theorem dL_law_279 : decode cL_law 279 = .ok (.iaload, 1) := by decide +kernel
theorem dL_law_280 : decode cL_law 280 = .ok (.aload_n 0, 1) := by decide +kernel
theorem dL_law_281 : decode cL_law 281 = .ok (.iload_n 3, 1) := by decide +kernel
theorem dL_law_282 : decode cL_law 282 = .ok (.iconst 2, 1) := by decide +kernel
theorem dL_law_283 : decode cL_law 283 = .ok (.iadd, 1) := by decide +kernel
theorem dL_law_284 : decode cL_law 284 = .ok (.iaload, 1) := by decide +kernel
theorem dL_law_285 : decode cL_law 285 = .ok (.invokevirtual 26, 3) := by decide +kernel
theorem dL_law_288 : decode cL_law 288 = .ok (.if_icmp .eq 1335, 3) := by decide +kernel
theorem dL_law_291 : decode cL_law 291 = .ok (.iconst 0, 1) := by decide +kernel
theorem dL_law_292 : decode cL_law 292 = .ok (.ireturn, 1) := by decide +kernel
theorem dL_law_293 : decode cL_law 293 = .ok (.aload_n 1, 1) := by decide +kernel
theorem dL_law_294 : decode cL_law 294 = .ok (.aload_n 0, 1) := by decide +kernel
theorem dL_law_295 : decode cL_law 295 = .ok (.iload_n 3, 1) := by decide +kernel
theorem dL_law_296 : decode cL_law 296 = .ok (.iconst 1, 1) := by decide +kernel
theorem dL_law_297 : decode cL_law 297 = .ok (.iadd, 1) := by decide +kernel
theorem dL_law_298 : decode cL_law 298 = .ok (.iaload, 1) := by decide +kernel
theorem dL_law_299 : decode cL_law 299 = .ok (.aload_n 0, 1) := by decide +kernel
theorem dL_law_300 : decode cL_law 300 = .ok (.iload_n 3, 1) := by decide +kernel
theorem dL_law_301 : decode cL_law 301 = .ok (.iconst 2, 1) := by decide +kernel
theorem dL_law_302 : decode cL_law 302 = .ok (.iadd, 1) := by decide +kernel
theorem dL_law_303 : decode cL_law 303 = .ok (.iaload, 1) := by decide +kernel
theorem dL_law_304 : decode cL_law 304 = .ok (.invokevirtual 27, 3) := by decide +kernel
theorem dL_law_307 : decode cL_law 307 = .ok (.aload_n 2, 1) := by decide +kernel
theorem dL_law_308 : decode cL_law 308 = .ok (.aload_n 0, 1) := by decide +kernel
theorem dL_law_309 : decode cL_law 309 = .ok (.iload_n 3, 1) := by decide +kernel
theorem dL_law_310 : decode cL_law 310 = .ok (.iconst 1, 1) := by decide +kernel
theorem dL_law_311 : decode cL_law 311 = .ok (.iadd, 1) := by decide +kernel
theorem dL_law_312 : decode cL_law 312 = .ok (.iaload, 1) := by decide +kernel
theorem dL_law_313 : decode cL_law 313 = .ok (.aload_n 0, 1) := by decide +kernel
theorem dL_law_314 : decode cL_law 314 = .ok (.iload_n 3, 1) := by decide +kernel
theorem dL_law_315 : decode cL_law 315 = .ok (.iconst 2, 1) := by decide +kernel
theorem dL_law_316 : decode cL_law 316 = .ok (.iadd, 1) := by decide +kernel
theorem dL_law_317 : decode cL_law 317 = .ok (.iaload, 1) := by decide +kernel
theorem dL_law_318 : decode cL_law 318 = .ok (.invokevirtual 30, 3) := by decide +kernel
theorem dL_law_321 : decode cL_law 321 = .ok (.if_icmp .eq 1302, 3) := by decide +kernel
theorem dL_law_324 : decode cL_law 324 = .ok (.iconst 0, 1) := by decide +kernel
theorem dL_law_325 : decode cL_law 325 = .ok (.ireturn, 1) := by decide +kernel
theorem dL_law_326 : decode cL_law 326 = .ok (.aload_n 1, 1) := by decide +kernel
theorem dL_law_327 : decode cL_law 327 = .ok (.aload_n 0, 1) := by decide +kernel
theorem dL_law_328 : decode cL_law 328 = .ok (.iload_n 3, 1) := by decide +kernel
theorem dL_law_329 : decode cL_law 329 = .ok (.iconst 1, 1) := by decide +kernel
theorem dL_law_330 : decode cL_law 330 = .ok (.iadd, 1) := by decide +kernel
theorem dL_law_331 : decode cL_law 331 = .ok (.iaload, 1) := by decide +kernel
theorem dL_law_332 : decode cL_law 332 = .ok (.aload_n 0, 1) := by decide +kernel
theorem dL_law_333 : decode cL_law 333 = .ok (.iload_n 3, 1) := by decide +kernel
theorem dL_law_334 : decode cL_law 334 = .ok (.iconst 2, 1) := by decide +kernel
theorem dL_law_335 : decode cL_law 335 = .ok (.iadd, 1) := by decide +kernel
theorem dL_law_336 : decode cL_law 336 = .ok (.iaload, 1) := by decide +kernel
theorem dL_law_337 : decode cL_law 337 = .ok (.aload_n 0, 1) := by decide +kernel
theorem dL_law_338 : decode cL_law 338 = .ok (.iload_n 3, 1) := by decide +kernel
theorem dL_law_339 : decode cL_law 339 = .ok (.iconst 3, 1) := by decide +kernel
theorem dL_law_340 : decode cL_law 340 = .ok (.iadd, 1) := by decide +kernel
theorem dL_law_341 : decode cL_law 341 = .ok (.iaload, 1) := by decide +kernel
theorem dL_law_342 : decode cL_law 342 = .ok (.aload_n 0, 1) := by decide +kernel
theorem dL_law_343 : decode cL_law 343 = .ok (.iload_n 3, 1) := by decide +kernel
theorem dL_law_344 : decode cL_law 344 = .ok (.iconst 4, 1) := by decide +kernel
theorem dL_law_345 : decode cL_law 345 = .ok (.iadd, 1) := by decide +kernel
theorem dL_law_346 : decode cL_law 346 = .ok (.iaload, 1) := by decide +kernel
theorem dL_law_347 : decode cL_law 347 = .ok (.aload_n 0, 1) := by decide +kernel
theorem dL_law_348 : decode cL_law 348 = .ok (.iload_n 3, 1) := by decide +kernel
theorem dL_law_349 : decode cL_law 349 = .ok (.iconst 5, 1) := by decide +kernel
theorem dL_law_350 : decode cL_law 350 = .ok (.iadd, 1) := by decide +kernel
theorem dL_law_351 : decode cL_law 351 = .ok (.iaload, 1) := by decide +kernel
theorem dL_law_352 : decode cL_law 352 = .ok (.aload_n 0, 1) := by decide +kernel
theorem dL_law_353 : decode cL_law 353 = .ok (.iload_n 3, 1) := by decide +kernel
theorem dL_law_354 : decode cL_law 354 = .ok (.bipush 6, 2) := by decide +kernel
theorem dL_law_356 : decode cL_law 356 = .ok (.iadd, 1) := by decide +kernel
theorem dL_law_357 : decode cL_law 357 = .ok (.iaload, 1) := by decide +kernel
theorem dL_law_358 : decode cL_law 358 = .ok (.invokevirtual 31, 3) := by decide +kernel
theorem dL_law_361 : decode cL_law 361 = .ok (.aload_n 2, 1) := by decide +kernel
theorem dL_law_362 : decode cL_law 362 = .ok (.aload_n 0, 1) := by decide +kernel
theorem dL_law_363 : decode cL_law 363 = .ok (.iload_n 3, 1) := by decide +kernel
theorem dL_law_364 : decode cL_law 364 = .ok (.iconst 1, 1) := by decide +kernel
theorem dL_law_365 : decode cL_law 365 = .ok (.iadd, 1) := by decide +kernel
theorem dL_law_366 : decode cL_law 366 = .ok (.iaload, 1) := by decide +kernel
theorem dL_law_367 : decode cL_law 367 = .ok (.aload_n 0, 1) := by decide +kernel
theorem dL_law_368 : decode cL_law 368 = .ok (.iload_n 3, 1) := by decide +kernel
theorem dL_law_369 : decode cL_law 369 = .ok (.iconst 2, 1) := by decide +kernel
theorem dL_law_370 : decode cL_law 370 = .ok (.iadd, 1) := by decide +kernel
theorem dL_law_371 : decode cL_law 371 = .ok (.iaload, 1) := by decide +kernel
theorem dL_law_372 : decode cL_law 372 = .ok (.aload_n 0, 1) := by decide +kernel
theorem dL_law_373 : decode cL_law 373 = .ok (.iload_n 3, 1) := by decide +kernel
theorem dL_law_374 : decode cL_law 374 = .ok (.iconst 3, 1) := by decide +kernel
theorem dL_law_375 : decode cL_law 375 = .ok (.iadd, 1) := by decide +kernel
theorem dL_law_376 : decode cL_law 376 = .ok (.iaload, 1) := by decide +kernel
theorem dL_law_377 : decode cL_law 377 = .ok (.aload_n 0, 1) := by decide +kernel
theorem dL_law_378 : decode cL_law 378 = .ok (.iload_n 3, 1) := by decide +kernel
theorem dL_law_379 : decode cL_law 379 = .ok (.iconst 4, 1) := by decide +kernel
theorem dL_law_380 : decode cL_law 380 = .ok (.iadd, 1) := by decide +kernel
theorem dL_law_381 : decode cL_law 381 = .ok (.iaload, 1) := by decide +kernel
theorem dL_law_382 : decode cL_law 382 = .ok (.aload_n 0, 1) := by decide +kernel
theorem dL_law_383 : decode cL_law 383 = .ok (.iload_n 3, 1) := by decide +kernel
theorem dL_law_384 : decode cL_law 384 = .ok (.iconst 5, 1) := by decide +kernel
theorem dL_law_385 : decode cL_law 385 = .ok (.iadd, 1) := by decide +kernel
theorem dL_law_386 : decode cL_law 386 = .ok (.iaload, 1) := by decide +kernel
theorem dL_law_387 : decode cL_law 387 = .ok (.aload_n 0, 1) := by decide +kernel
theorem dL_law_388 : decode cL_law 388 = .ok (.iload_n 3, 1) := by decide +kernel
theorem dL_law_389 : decode cL_law 389 = .ok (.bipush 6, 2) := by decide +kernel
theorem dL_law_391 : decode cL_law 391 = .ok (.iadd, 1) := by decide +kernel
theorem dL_law_392 : decode cL_law 392 = .ok (.iaload, 1) := by decide +kernel
theorem dL_law_393 : decode cL_law 393 = .ok (.invokevirtual 35, 3) := by decide +kernel
theorem dL_law_396 : decode cL_law 396 = .ok (.if_icmp .eq 1227, 3) := by decide +kernel
theorem dL_law_399 : decode cL_law 399 = .ok (.iconst 0, 1) := by decide +kernel
theorem dL_law_400 : decode cL_law 400 = .ok (.ireturn, 1) := by decide +kernel
theorem dL_law_401 : decode cL_law 401 = .ok (.aload_n 1, 1) := by decide +kernel
theorem dL_law_402 : decode cL_law 402 = .ok (.aload_n 0, 1) := by decide +kernel
theorem dL_law_403 : decode cL_law 403 = .ok (.iload_n 3, 1) := by decide +kernel
theorem dL_law_404 : decode cL_law 404 = .ok (.iconst 1, 1) := by decide +kernel
theorem dL_law_405 : decode cL_law 405 = .ok (.iadd, 1) := by decide +kernel
theorem dL_law_406 : decode cL_law 406 = .ok (.iaload, 1) := by decide +kernel
theorem dL_law_407 : decode cL_law 407 = .ok (.aload_n 0, 1) := by decide +kernel
theorem dL_law_408 : decode cL_law 408 = .ok (.iload_n 3, 1) := by decide +kernel
theorem dL_law_409 : decode cL_law 409 = .ok (.iconst 2, 1) := by decide +kernel
theorem dL_law_410 : decode cL_law 410 = .ok (.iadd, 1) := by decide +kernel
theorem dL_law_411 : decode cL_law 411 = .ok (.iaload, 1) := by decide +kernel
theorem dL_law_412 : decode cL_law 412 = .ok (.aload_n 0, 1) := by decide +kernel
theorem dL_law_413 : decode cL_law 413 = .ok (.iload_n 3, 1) := by decide +kernel
theorem dL_law_414 : decode cL_law 414 = .ok (.iconst 3, 1) := by decide +kernel
theorem dL_law_415 : decode cL_law 415 = .ok (.iadd, 1) := by decide +kernel
theorem dL_law_416 : decode cL_law 416 = .ok (.iaload, 1) := by decide +kernel
theorem dL_law_417 : decode cL_law 417 = .ok (.aload_n 0, 1) := by decide +kernel
theorem dL_law_418 : decode cL_law 418 = .ok (.iload_n 3, 1) := by decide +kernel
theorem dL_law_419 : decode cL_law 419 = .ok (.iconst 4, 1) := by decide +kernel
theorem dL_law_420 : decode cL_law 420 = .ok (.iadd, 1) := by decide +kernel
theorem dL_law_421 : decode cL_law 421 = .ok (.iaload, 1) := by decide +kernel
theorem dL_law_422 : decode cL_law 422 = .ok (.aload_n 0, 1) := by decide +kernel
theorem dL_law_423 : decode cL_law 423 = .ok (.iload_n 3, 1) := by decide +kernel
theorem dL_law_424 : decode cL_law 424 = .ok (.iconst 5, 1) := by decide +kernel
theorem dL_law_425 : decode cL_law 425 = .ok (.iadd, 1) := by decide +kernel
theorem dL_law_426 : decode cL_law 426 = .ok (.iaload, 1) := by decide +kernel
theorem dL_law_427 : decode cL_law 427 = .ok (.aload_n 0, 1) := by decide +kernel
theorem dL_law_428 : decode cL_law 428 = .ok (.iload_n 3, 1) := by decide +kernel
theorem dL_law_429 : decode cL_law 429 = .ok (.bipush 6, 2) := by decide +kernel
theorem dL_law_431 : decode cL_law 431 = .ok (.iadd, 1) := by decide +kernel
theorem dL_law_432 : decode cL_law 432 = .ok (.iaload, 1) := by decide +kernel
theorem dL_law_433 : decode cL_law 433 = .ok (.invokevirtual 36, 3) := by decide +kernel
theorem dL_law_436 : decode cL_law 436 = .ok (.aload_n 2, 1) := by decide +kernel
theorem dL_law_437 : decode cL_law 437 = .ok (.aload_n 0, 1) := by decide +kernel
theorem dL_law_438 : decode cL_law 438 = .ok (.iload_n 3, 1) := by decide +kernel
theorem dL_law_439 : decode cL_law 439 = .ok (.iconst 1, 1) := by decide +kernel
theorem dL_law_440 : decode cL_law 440 = .ok (.iadd, 1) := by decide +kernel
theorem dL_law_441 : decode cL_law 441 = .ok (.iaload, 1) := by decide +kernel
theorem dL_law_442 : decode cL_law 442 = .ok (.aload_n 0, 1) := by decide +kernel
theorem dL_law_443 : decode cL_law 443 = .ok (.iload_n 3, 1) := by decide +kernel
theorem dL_law_444 : decode cL_law 444 = .ok (.iconst 2, 1) := by decide +kernel
theorem dL_law_445 : decode cL_law 445 = .ok (.iadd, 1) := by decide +kernel
theorem dL_law_446 : decode cL_law 446 = .ok (.iaload, 1) := by decide +kernel
theorem dL_law_447 : decode cL_law 447 = .ok (.aload_n 0, 1) := by decide +kernel
theorem dL_law_448 : decode cL_law 448 = .ok (.iload_n 3, 1) := by decide +kernel
theorem dL_law_449 : decode cL_law 449 = .ok (.iconst 3, 1) := by decide +kernel
theorem dL_law_450 : decode cL_law 450 = .ok (.iadd, 1) := by decide +kernel
theorem dL_law_451 : decode cL_law 451 = .ok (.iaload, 1) := by decide +kernel
theorem dL_law_452 : decode cL_law 452 = .ok (.aload_n 0, 1) := by decide +kernel
theorem dL_law_453 : decode cL_law 453 = .ok (.iload_n 3, 1) := by decide +kernel
theorem dL_law_454 : decode cL_law 454 = .ok (.iconst 4, 1) := by decide +kernel
theorem dL_law_455 : decode cL_law 455 = .ok (.iadd, 1) := by decide +kernel
theorem dL_law_456 : decode cL_law 456 = .ok (.iaload, 1) := by decide +kernel
theorem dL_law_457 : decode cL_law 457 = .ok (.aload_n 0, 1) := by decide +kernel
theorem dL_law_458 : decode cL_law 458 = .ok (.iload_n 3, 1) := by decide +kernel
theorem dL_law_459 : decode cL_law 459 = .ok (.iconst 5, 1) := by decide +kernel
theorem dL_law_460 : decode cL_law 460 = .ok (.iadd, 1) := by decide +kernel
theorem dL_law_461 : decode cL_law 461 = .ok (.iaload, 1) := by decide +kernel
theorem dL_law_462 : decode cL_law 462 = .ok (.aload_n 0, 1) := by decide +kernel
theorem dL_law_463 : decode cL_law 463 = .ok (.iload_n 3, 1) := by decide +kernel
theorem dL_law_464 : decode cL_law 464 = .ok (.bipush 6, 2) := by decide +kernel
theorem dL_law_466 : decode cL_law 466 = .ok (.iadd, 1) := by decide +kernel
theorem dL_law_467 : decode cL_law 467 = .ok (.iaload, 1) := by decide +kernel
theorem dL_law_468 : decode cL_law 468 = .ok (.invokevirtual 39, 3) := by decide +kernel
theorem dL_law_471 : decode cL_law 471 = .ok (.if_icmp .eq 1152, 3) := by decide +kernel
theorem dL_law_474 : decode cL_law 474 = .ok (.iconst 0, 1) := by decide +kernel
theorem dL_law_475 : decode cL_law 475 = .ok (.ireturn, 1) := by decide +kernel
theorem dL_law_476 : decode cL_law 476 = .ok (.aload_n 1, 1) := by decide +kernel
theorem dL_law_477 : decode cL_law 477 = .ok (.aload_n 0, 1) := by decide +kernel
theorem dL_law_478 : decode cL_law 478 = .ok (.iload_n 3, 1) := by decide +kernel
theorem dL_law_479 : decode cL_law 479 = .ok (.iconst 1, 1) := by decide +kernel
theorem dL_law_480 : decode cL_law 480 = .ok (.iadd, 1) := by decide +kernel
theorem dL_law_481 : decode cL_law 481 = .ok (.iaload, 1) := by decide +kernel
theorem dL_law_482 : decode cL_law 482 = .ok (.aload_n 0, 1) := by decide +kernel
theorem dL_law_483 : decode cL_law 483 = .ok (.iload_n 3, 1) := by decide +kernel
theorem dL_law_484 : decode cL_law 484 = .ok (.iconst 2, 1) := by decide +kernel
theorem dL_law_485 : decode cL_law 485 = .ok (.iadd, 1) := by decide +kernel
theorem dL_law_486 : decode cL_law 486 = .ok (.iaload, 1) := by decide +kernel
theorem dL_law_487 : decode cL_law 487 = .ok (.aload_n 0, 1) := by decide +kernel
theorem dL_law_488 : decode cL_law 488 = .ok (.iload_n 3, 1) := by decide +kernel
theorem dL_law_489 : decode cL_law 489 = .ok (.iconst 3, 1) := by decide +kernel
theorem dL_law_490 : decode cL_law 490 = .ok (.iadd, 1) := by decide +kernel
theorem dL_law_491 : decode cL_law 491 = .ok (.iaload, 1) := by decide +kernel
theorem dL_law_492 : decode cL_law 492 = .ok (.aload_n 0, 1) := by decide +kernel
theorem dL_law_493 : decode cL_law 493 = .ok (.iload_n 3, 1) := by decide +kernel
theorem dL_law_494 : decode cL_law 494 = .ok (.iconst 4, 1) := by decide +kernel
theorem dL_law_495 : decode cL_law 495 = .ok (.iadd, 1) := by decide +kernel
theorem dL_law_496 : decode cL_law 496 = .ok (.iaload, 1) := by decide +kernel
theorem dL_law_497 : decode cL_law 497 = .ok (.aload_n 0, 1) := by decide +kernel
theorem dL_law_498 : decode cL_law 498 = .ok (.iload_n 3, 1) := by decide +kernel
theorem dL_law_499 : decode cL_law 499 = .ok (.iconst 5, 1) := by decide +kernel
theorem dL_law_500 : decode cL_law 500 = .ok (.iadd, 1) := by decide +kernel
theorem dL_law_501 : decode cL_law 501 = .ok (.iaload, 1) := by decide +kernel
theorem dL_law_502 : decode cL_law 502 = .ok (.invokevirtual 40, 3) := by decide +kernel
theorem dL_law_505 : decode cL_law 505 = .ok (.aload_n 2, 1) := by decide +kernel
theorem dL_law_506 : decode cL_law 506 = .ok (.aload_n 0, 1) := by decide +kernel
theorem dL_law_507 : decode cL_law 507 = .ok (.iload_n 3, 1) := by decide +kernel
theorem dL_law_508 : decode cL_law 508 = .ok (.iconst 1, 1) := by decide +kernel
theorem dL_law_509 : decode cL_law 509 = .ok (.iadd, 1) := by decide +kernel
theorem dL_law_510 : decode cL_law 510 = .ok (.iaload, 1) := by decide +kernel
theorem dL_law_511 : decode cL_law 511 = .ok (.aload_n 0, 1) := by decide +kernel
theorem dL_law_512 : decode cL_law 512 = .ok (.iload_n 3, 1) := by decide +kernel
theorem dL_law_513 : decode cL_law 513 = .ok (.iconst 2, 1) := by decide +kernel
theorem dL_law_514 : decode cL_law 514 = .ok (.iadd, 1) := by decide +kernel
theorem dL_law_515 : decode cL_law 515 = .ok (.iaload, 1) := by decide +kernel
theorem dL_law_516 : decode cL_law 516 = .ok (.aload_n 0, 1) := by decide +kernel
theorem dL_law_517 : decode cL_law 517 = .ok (.iload_n 3, 1) := by decide +kernel
theorem dL_law_518 : decode cL_law 518 = .ok (.iconst 3, 1) := by decide +kernel
theorem dL_law_519 : decode cL_law 519 = .ok (.iadd, 1) := by decide +kernel
theorem dL_law_520 : decode cL_law 520 = .ok (.iaload, 1) := by decide +kernel
theorem dL_law_521 : decode cL_law 521 = .ok (.aload_n 0, 1) := by decide +kernel
theorem dL_law_522 : decode cL_law 522 = .ok (.iload_n 3, 1) := by decide +kernel
theorem dL_law_523 : decode cL_law 523 = .ok (.iconst 4, 1) := by decide +kernel
theorem dL_law_524 : decode cL_law 524 = .ok (.iadd, 1) := by decide +kernel
theorem dL_law_525 : decode cL_law 525 = .ok (.iaload, 1) := by decide +kernel
theorem dL_law_526 : decode cL_law 526 = .ok (.aload_n 0, 1) := by decide +kernel
theorem dL_law_527 : decode cL_law 527 = .ok (.iload_n 3, 1) := by decide +kernel
theorem dL_law_528 : decode cL_law 528 = .ok (.iconst 5, 1) := by decide +kernel
theorem dL_law_529 : decode cL_law 529 = .ok (.iadd, 1) := by decide +kernel
theorem dL_law_530 : decode cL_law 530 = .ok (.iaload, 1) := by decide +kernel
theorem dL_law_531 : decode cL_law 531 = .ok (.invokevirtual 44, 3) := by decide +kernel
theorem dL_law_534 : decode cL_law 534 = .ok (.if_icmp .eq 1089, 3) := by decide +kernel
theorem dL_law_537 : decode cL_law 537 = .ok (.iconst 0, 1) := by decide +kernel
theorem dL_law_538 : decode cL_law 538 = .ok (.ireturn, 1) := by decide +kernel
theorem dL_law_539 : decode cL_law 539 = .ok (.aload_n 1, 1) := by decide +kernel
theorem dL_law_540 : decode cL_law 540 = .ok (.aload_n 0, 1) := by decide +kernel
theorem dL_law_541 : decode cL_law 541 = .ok (.iload_n 3, 1) := by decide +kernel
theorem dL_law_542 : decode cL_law 542 = .ok (.iconst 1, 1) := by decide +kernel
theorem dL_law_543 : decode cL_law 543 = .ok (.iadd, 1) := by decide +kernel
theorem dL_law_544 : decode cL_law 544 = .ok (.iaload, 1) := by decide +kernel
theorem dL_law_545 : decode cL_law 545 = .ok (.aload_n 0, 1) := by decide +kernel
theorem dL_law_546 : decode cL_law 546 = .ok (.iload_n 3, 1) := by decide +kernel
theorem dL_law_547 : decode cL_law 547 = .ok (.iconst 2, 1) := by decide +kernel
theorem dL_law_548 : decode cL_law 548 = .ok (.iadd, 1) := by decide +kernel
theorem dL_law_549 : decode cL_law 549 = .ok (.iaload, 1) := by decide +kernel
theorem dL_law_550 : decode cL_law 550 = .ok (.aload_n 0, 1) := by decide +kernel
theorem dL_law_551 : decode cL_law 551 = .ok (.iload_n 3, 1) := by decide +kernel
theorem dL_law_552 : decode cL_law 552 = .ok (.iconst 3, 1) := by decide +kernel
theorem dL_law_553 : decode cL_law 553 = .ok (.iadd, 1) := by decide +kernel
theorem dL_law_554 : decode cL_law 554 = .ok (.iaload, 1) := by decide +kernel
theorem dL_law_555 : decode cL_law 555 = .ok (.invokevirtual 45, 3) := by decide +kernel
theorem dL_law_558 : decode cL_law 558 = .ok (.aload_n 2, 1) := by decide +kernel
theorem dL_law_559 : decode cL_law 559 = .ok (.aload_n 0, 1) := by decide +kernel
theorem dL_law_560 : decode cL_law 560 = .ok (.iload_n 3, 1) := by decide +kernel
theorem dL_law_561 : decode cL_law 561 = .ok (.iconst 1, 1) := by decide +kernel
theorem dL_law_562 : decode cL_law 562 = .ok (.iadd, 1) := by decide +kernel
theorem dL_law_563 : decode cL_law 563 = .ok (.iaload, 1) := by decide +kernel
theorem dL_law_564 : decode cL_law 564 = .ok (.aload_n 0, 1) := by decide +kernel
theorem dL_law_565 : decode cL_law 565 = .ok (.iload_n 3, 1) := by decide +kernel
theorem dL_law_566 : decode cL_law 566 = .ok (.iconst 2, 1) := by decide +kernel
theorem dL_law_567 : decode cL_law 567 = .ok (.iadd, 1) := by decide +kernel
theorem dL_law_568 : decode cL_law 568 = .ok (.iaload, 1) := by decide +kernel
theorem dL_law_569 : decode cL_law 569 = .ok (.aload_n 0, 1) := by decide +kernel
theorem dL_law_570 : decode cL_law 570 = .ok (.iload_n 3, 1) := by decide +kernel
theorem dL_law_571 : decode cL_law 571 = .ok (.iconst 3, 1) := by decide +kernel
theorem dL_law_572 : decode cL_law 572 = .ok (.iadd, 1) := by decide +kernel
theorem dL_law_573 : decode cL_law 573 = .ok (.iaload, 1) := by decide +kernel
theorem dL_law_574 : decode cL_law 574 = .ok (.invokevirtual 49, 3) := by decide +kernel
theorem dL_law_577 : decode cL_law 577 = .ok (.if_icmp .eq 1046, 3) := by decide +kernel
theorem dL_law_580 : decode cL_law 580 = .ok (.iconst 0, 1) := by decide +kernel
theorem dL_law_581 : decode cL_law 581 = .ok (.ireturn, 1) := by decide +kernel
theorem dL_law_582 : decode cL_law 582 = .ok (.aload_n 1, 1) := by decide +kernel
theorem dL_law_583 : decode cL_law 583 = .ok (.aload_n 0, 1) := by decide +kernel
theorem dL_law_584 : decode cL_law 584 = .ok (.iload_n 3, 1) := by decide +kernel
theorem dL_law_585 : decode cL_law 585 = .ok (.iconst 1, 1) := by decide +kernel
theorem dL_law_586 : decode cL_law 586 = .ok (.iadd, 1) := by decide +kernel
theorem dL_law_587 : decode cL_law 587 = .ok (.iaload, 1) := by decide +kernel
theorem dL_law_588 : decode cL_law 588 = .ok (.aload_n 0, 1) := by decide +kernel
theorem dL_law_589 : decode cL_law 589 = .ok (.iload_n 3, 1) := by decide +kernel
theorem dL_law_590 : decode cL_law 590 = .ok (.iconst 2, 1) := by decide +kernel
theorem dL_law_591 : decode cL_law 591 = .ok (.iadd, 1) := by decide +kernel
theorem dL_law_592 : decode cL_law 592 = .ok (.iaload, 1) := by decide +kernel
theorem dL_law_593 : decode cL_law 593 = .ok (.invokevirtual 50, 3) := by decide +kernel
theorem dL_law_596 : decode cL_law 596 = .ok (.aload_n 2, 1) := by decide +kernel
theorem dL_law_597 : decode cL_law 597 = .ok (.aload_n 0, 1) := by decide +kernel
theorem dL_law_598 : decode cL_law 598 = .ok (.iload_n 3, 1) := by decide +kernel
theorem dL_law_599 : decode cL_law 599 = .ok (.iconst 1, 1) := by decide +kernel
theorem dL_law_600 : decode cL_law 600 = .ok (.iadd, 1) := by decide +kernel
theorem dL_law_601 : decode cL_law 601 = .ok (.iaload, 1) := by decide +kernel
theorem dL_law_602 : decode cL_law 602 = .ok (.aload_n 0, 1) := by decide +kernel
theorem dL_law_603 : decode cL_law 603 = .ok (.iload_n 3, 1) := by decide +kernel
theorem dL_law_604 : decode cL_law 604 = .ok (.iconst 2, 1) := by decide +kernel
theorem dL_law_605 : decode cL_law 605 = .ok (.iadd, 1) := by decide +kernel
theorem dL_law_606 : decode cL_law 606 = .ok (.iaload, 1) := by decide +kernel
theorem dL_law_607 : decode cL_law 607 = .ok (.invokevirtual 53, 3) := by decide +kernel
theorem dL_law_610 : decode cL_law 610 = .ok (.if_icmp .eq 1013, 3) := by decide +kernel
theorem dL_law_613 : decode cL_law 613 = .ok (.iconst 0, 1) := by decide +kernel
theorem dL_law_614 : decode cL_law 614 = .ok (.ireturn, 1) := by decide +kernel
theorem dL_law_615 : decode cL_law 615 = .ok (.aload_n 1, 1) := by decide +kernel
theorem dL_law_616 : decode cL_law 616 = .ok (.aload_n 0, 1) := by decide +kernel
theorem dL_law_617 : decode cL_law 617 = .ok (.iload_n 3, 1) := by decide +kernel
theorem dL_law_618 : decode cL_law 618 = .ok (.iconst 1, 1) := by decide +kernel
theorem dL_law_619 : decode cL_law 619 = .ok (.iadd, 1) := by decide +kernel
theorem dL_law_620 : decode cL_law 620 = .ok (.iaload, 1) := by decide +kernel
theorem dL_law_621 : decode cL_law 621 = .ok (.aload_n 0, 1) := by decide +kernel
theorem dL_law_622 : decode cL_law 622 = .ok (.iload_n 3, 1) := by decide +kernel
theorem dL_law_623 : decode cL_law 623 = .ok (.iconst 2, 1) := by decide +kernel
theorem dL_law_624 : decode cL_law 624 = .ok (.iadd, 1) := by decide +kernel
theorem dL_law_625 : decode cL_law 625 = .ok (.iaload, 1) := by decide +kernel
theorem dL_law_626 : decode cL_law 626 = .ok (.ifCond .eq 7, 3) := by decide +kernel
theorem dL_law_629 : decode cL_law 629 = .ok (.iconst 1, 1) := by decide +kernel
theorem dL_law_630 : decode cL_law 630 = .ok (.goto 4, 3) := by decide +kernel
theorem dL_law_633 : decode cL_law 633 = .ok (.iconst 0, 1) := by decide +kernel
theorem dL_law_634 : decode cL_law 634 = .ok (.invokevirtual 54, 3) := by decide +kernel
theorem dL_law_637 : decode cL_law 637 = .ok (.aload_n 2, 1) := by decide +kernel
theorem dL_law_638 : decode cL_law 638 = .ok (.aload_n 0, 1) := by decide +kernel
theorem dL_law_639 : decode cL_law 639 = .ok (.iload_n 3, 1) := by decide +kernel
theorem dL_law_640 : decode cL_law 640 = .ok (.iconst 1, 1) := by decide +kernel
theorem dL_law_641 : decode cL_law 641 = .ok (.iadd, 1) := by decide +kernel
theorem dL_law_642 : decode cL_law 642 = .ok (.iaload, 1) := by decide +kernel
theorem dL_law_643 : decode cL_law 643 = .ok (.aload_n 0, 1) := by decide +kernel
theorem dL_law_644 : decode cL_law 644 = .ok (.iload_n 3, 1) := by decide +kernel
theorem dL_law_645 : decode cL_law 645 = .ok (.iconst 2, 1) := by decide +kernel
theorem dL_law_646 : decode cL_law 646 = .ok (.iadd, 1) := by decide +kernel
theorem dL_law_647 : decode cL_law 647 = .ok (.iaload, 1) := by decide +kernel
theorem dL_law_648 : decode cL_law 648 = .ok (.ifCond .eq 7, 3) := by decide +kernel
theorem dL_law_651 : decode cL_law 651 = .ok (.iconst 1, 1) := by decide +kernel
theorem dL_law_652 : decode cL_law 652 = .ok (.goto 4, 3) := by decide +kernel
theorem dL_law_655 : decode cL_law 655 = .ok (.iconst 0, 1) := by decide +kernel
theorem dL_law_656 : decode cL_law 656 = .ok (.invokevirtual 58, 3) := by decide +kernel
theorem dL_law_659 : decode cL_law 659 = .ok (.if_icmp .eq 964, 3) := by decide +kernel
theorem dL_law_662 : decode cL_law 662 = .ok (.iconst 0, 1) := by decide +kernel
theorem dL_law_663 : decode cL_law 663 = .ok (.ireturn, 1) := by decide +kernel
theorem dL_law_664 : decode cL_law 664 = .ok (.aload_n 1, 1) := by decide +kernel
theorem dL_law_665 : decode cL_law 665 = .ok (.aload_n 0, 1) := by decide +kernel
theorem dL_law_666 : decode cL_law 666 = .ok (.iload_n 3, 1) := by decide +kernel
theorem dL_law_667 : decode cL_law 667 = .ok (.iconst 1, 1) := by decide +kernel
theorem dL_law_668 : decode cL_law 668 = .ok (.iadd, 1) := by decide +kernel
theorem dL_law_669 : decode cL_law 669 = .ok (.iaload, 1) := by decide +kernel
theorem dL_law_670 : decode cL_law 670 = .ok (.aload_n 0, 1) := by decide +kernel
theorem dL_law_671 : decode cL_law 671 = .ok (.iload_n 3, 1) := by decide +kernel
theorem dL_law_672 : decode cL_law 672 = .ok (.iconst 2, 1) := by decide +kernel
theorem dL_law_673 : decode cL_law 673 = .ok (.iadd, 1) := by decide +kernel
theorem dL_law_674 : decode cL_law 674 = .ok (.iaload, 1) := by decide +kernel
theorem dL_law_675 : decode cL_law 675 = .ok (.aload_n 0, 1) := by decide +kernel
theorem dL_law_676 : decode cL_law 676 = .ok (.iload_n 3, 1) := by decide +kernel
theorem dL_law_677 : decode cL_law 677 = .ok (.iconst 3, 1) := by decide +kernel
theorem dL_law_678 : decode cL_law 678 = .ok (.iadd, 1) := by decide +kernel
theorem dL_law_679 : decode cL_law 679 = .ok (.iaload, 1) := by decide +kernel
theorem dL_law_680 : decode cL_law 680 = .ok (.aload_n 0, 1) := by decide +kernel
theorem dL_law_681 : decode cL_law 681 = .ok (.iload_n 3, 1) := by decide +kernel
theorem dL_law_682 : decode cL_law 682 = .ok (.iconst 4, 1) := by decide +kernel
theorem dL_law_683 : decode cL_law 683 = .ok (.iadd, 1) := by decide +kernel
theorem dL_law_684 : decode cL_law 684 = .ok (.iaload, 1) := by decide +kernel
theorem dL_law_685 : decode cL_law 685 = .ok (.invokevirtual 59, 3) := by decide +kernel
theorem dL_law_688 : decode cL_law 688 = .ok (.aload_n 2, 1) := by decide +kernel
theorem dL_law_689 : decode cL_law 689 = .ok (.aload_n 0, 1) := by decide +kernel
theorem dL_law_690 : decode cL_law 690 = .ok (.iload_n 3, 1) := by decide +kernel
theorem dL_law_691 : decode cL_law 691 = .ok (.iconst 1, 1) := by decide +kernel
theorem dL_law_692 : decode cL_law 692 = .ok (.iadd, 1) := by decide +kernel
theorem dL_law_693 : decode cL_law 693 = .ok (.iaload, 1) := by decide +kernel
theorem dL_law_694 : decode cL_law 694 = .ok (.aload_n 0, 1) := by decide +kernel
theorem dL_law_695 : decode cL_law 695 = .ok (.iload_n 3, 1) := by decide +kernel
theorem dL_law_696 : decode cL_law 696 = .ok (.iconst 2, 1) := by decide +kernel
theorem dL_law_697 : decode cL_law 697 = .ok (.iadd, 1) := by decide +kernel
theorem dL_law_698 : decode cL_law 698 = .ok (.iaload, 1) := by decide +kernel
theorem dL_law_699 : decode cL_law 699 = .ok (.aload_n 0, 1) := by decide +kernel
theorem dL_law_700 : decode cL_law 700 = .ok (.iload_n 3, 1) := by decide +kernel
theorem dL_law_701 : decode cL_law 701 = .ok (.iconst 3, 1) := by decide +kernel
theorem dL_law_702 : decode cL_law 702 = .ok (.iadd, 1) := by decide +kernel
theorem dL_law_703 : decode cL_law 703 = .ok (.iaload, 1) := by decide +kernel
theorem dL_law_704 : decode cL_law 704 = .ok (.aload_n 0, 1) := by decide +kernel
theorem dL_law_705 : decode cL_law 705 = .ok (.iload_n 3, 1) := by decide +kernel
theorem dL_law_706 : decode cL_law 706 = .ok (.iconst 4, 1) := by decide +kernel
theorem dL_law_707 : decode cL_law 707 = .ok (.iadd, 1) := by decide +kernel
theorem dL_law_708 : decode cL_law 708 = .ok (.iaload, 1) := by decide +kernel
theorem dL_law_709 : decode cL_law 709 = .ok (.invokevirtual 63, 3) := by decide +kernel
theorem dL_law_712 : decode cL_law 712 = .ok (.if_icmp .eq 911, 3) := by decide +kernel
theorem dL_law_715 : decode cL_law 715 = .ok (.iconst 0, 1) := by decide +kernel
theorem dL_law_716 : decode cL_law 716 = .ok (.ireturn, 1) := by decide +kernel
theorem dL_law_717 : decode cL_law 717 = .ok (.aload_n 1, 1) := by decide +kernel
theorem dL_law_718 : decode cL_law 718 = .ok (.aload_n 0, 1) := by decide +kernel
theorem dL_law_719 : decode cL_law 719 = .ok (.iload_n 3, 1) := by decide +kernel
theorem dL_law_720 : decode cL_law 720 = .ok (.iconst 1, 1) := by decide +kernel
theorem dL_law_721 : decode cL_law 721 = .ok (.iadd, 1) := by decide +kernel
theorem dL_law_722 : decode cL_law 722 = .ok (.iaload, 1) := by decide +kernel
theorem dL_law_723 : decode cL_law 723 = .ok (.aload_n 0, 1) := by decide +kernel
theorem dL_law_724 : decode cL_law 724 = .ok (.iload_n 3, 1) := by decide +kernel
theorem dL_law_725 : decode cL_law 725 = .ok (.iconst 2, 1) := by decide +kernel
theorem dL_law_726 : decode cL_law 726 = .ok (.iadd, 1) := by decide +kernel
theorem dL_law_727 : decode cL_law 727 = .ok (.iaload, 1) := by decide +kernel
theorem dL_law_728 : decode cL_law 728 = .ok (.aload_n 0, 1) := by decide +kernel
theorem dL_law_729 : decode cL_law 729 = .ok (.iload_n 3, 1) := by decide +kernel
theorem dL_law_730 : decode cL_law 730 = .ok (.iconst 3, 1) := by decide +kernel
theorem dL_law_731 : decode cL_law 731 = .ok (.iadd, 1) := by decide +kernel
theorem dL_law_732 : decode cL_law 732 = .ok (.iaload, 1) := by decide +kernel
theorem dL_law_733 : decode cL_law 733 = .ok (.aload_n 0, 1) := by decide +kernel
theorem dL_law_734 : decode cL_law 734 = .ok (.iload_n 3, 1) := by decide +kernel
theorem dL_law_735 : decode cL_law 735 = .ok (.iconst 4, 1) := by decide +kernel
theorem dL_law_736 : decode cL_law 736 = .ok (.iadd, 1) := by decide +kernel
theorem dL_law_737 : decode cL_law 737 = .ok (.iaload, 1) := by decide +kernel
theorem dL_law_738 : decode cL_law 738 = .ok (.ifCond .eq 7, 3) := by decide +kernel
theorem dL_law_741 : decode cL_law 741 = .ok (.iconst 1, 1) := by decide +kernel
theorem dL_law_742 : decode cL_law 742 = .ok (.goto 4, 3) := by decide +kernel
theorem dL_law_745 : decode cL_law 745 = .ok (.iconst 0, 1) := by decide +kernel
theorem dL_law_746 : decode cL_law 746 = .ok (.aload_n 0, 1) := by decide +kernel
theorem dL_law_747 : decode cL_law 747 = .ok (.iload_n 3, 1) := by decide +kernel
theorem dL_law_748 : decode cL_law 748 = .ok (.iconst 5, 1) := by decide +kernel
theorem dL_law_749 : decode cL_law 749 = .ok (.iadd, 1) := by decide +kernel
theorem dL_law_750 : decode cL_law 750 = .ok (.iaload, 1) := by decide +kernel
theorem dL_law_751 : decode cL_law 751 = .ok (.invokevirtual 64, 3) := by decide +kernel
theorem dL_law_754 : decode cL_law 754 = .ok (.aload_n 2, 1) := by decide +kernel
theorem dL_law_755 : decode cL_law 755 = .ok (.aload_n 0, 1) := by decide +kernel
theorem dL_law_756 : decode cL_law 756 = .ok (.iload_n 3, 1) := by decide +kernel
theorem dL_law_757 : decode cL_law 757 = .ok (.iconst 1, 1) := by decide +kernel
theorem dL_law_758 : decode cL_law 758 = .ok (.iadd, 1) := by decide +kernel
theorem dL_law_759 : decode cL_law 759 = .ok (.iaload, 1) := by decide +kernel
theorem dL_law_760 : decode cL_law 760 = .ok (.aload_n 0, 1) := by decide +kernel
theorem dL_law_761 : decode cL_law 761 = .ok (.iload_n 3, 1) := by decide +kernel
theorem dL_law_762 : decode cL_law 762 = .ok (.iconst 2, 1) := by decide +kernel
theorem dL_law_763 : decode cL_law 763 = .ok (.iadd, 1) := by decide +kernel
theorem dL_law_764 : decode cL_law 764 = .ok (.iaload, 1) := by decide +kernel
theorem dL_law_765 : decode cL_law 765 = .ok (.aload_n 0, 1) := by decide +kernel
theorem dL_law_766 : decode cL_law 766 = .ok (.iload_n 3, 1) := by decide +kernel
theorem dL_law_767 : decode cL_law 767 = .ok (.iconst 3, 1) := by decide +kernel
theorem dL_law_768 : decode cL_law 768 = .ok (.iadd, 1) := by decide +kernel
theorem dL_law_769 : decode cL_law 769 = .ok (.iaload, 1) := by decide +kernel
theorem dL_law_770 : decode cL_law 770 = .ok (.aload_n 0, 1) := by decide +kernel
theorem dL_law_771 : decode cL_law 771 = .ok (.iload_n 3, 1) := by decide +kernel
theorem dL_law_772 : decode cL_law 772 = .ok (.iconst 4, 1) := by decide +kernel
theorem dL_law_773 : decode cL_law 773 = .ok (.iadd, 1) := by decide +kernel
theorem dL_law_774 : decode cL_law 774 = .ok (.iaload, 1) := by decide +kernel
theorem dL_law_775 : decode cL_law 775 = .ok (.ifCond .eq 7, 3) := by decide +kernel
theorem dL_law_778 : decode cL_law 778 = .ok (.iconst 1, 1) := by decide +kernel
theorem dL_law_779 : decode cL_law 779 = .ok (.goto 4, 3) := by decide +kernel
theorem dL_law_782 : decode cL_law 782 = .ok (.iconst 0, 1) := by decide +kernel
theorem dL_law_783 : decode cL_law 783 = .ok (.aload_n 0, 1) := by decide +kernel
theorem dL_law_784 : decode cL_law 784 = .ok (.iload_n 3, 1) := by decide +kernel
theorem dL_law_785 : decode cL_law 785 = .ok (.iconst 5, 1) := by decide +kernel
theorem dL_law_786 : decode cL_law 786 = .ok (.iadd, 1) := by decide +kernel
theorem dL_law_787 : decode cL_law 787 = .ok (.iaload, 1) := by decide +kernel
theorem dL_law_788 : decode cL_law 788 = .ok (.invokevirtual 68, 3) := by decide +kernel
theorem dL_law_791 : decode cL_law 791 = .ok (.if_icmp .eq 832, 3) := by decide +kernel
theorem dL_law_794 : decode cL_law 794 = .ok (.iconst 0, 1) := by decide +kernel
theorem dL_law_795 : decode cL_law 795 = .ok (.ireturn, 1) := by decide +kernel
theorem dL_law_796 : decode cL_law 796 = .ok (.aload_n 1, 1) := by decide +kernel
theorem dL_law_797 : decode cL_law 797 = .ok (.aload_n 0, 1) := by decide +kernel
theorem dL_law_798 : decode cL_law 798 = .ok (.iload_n 3, 1) := by decide +kernel
theorem dL_law_799 : decode cL_law 799 = .ok (.iconst 1, 1) := by decide +kernel
theorem dL_law_800 : decode cL_law 800 = .ok (.iadd, 1) := by decide +kernel
theorem dL_law_801 : decode cL_law 801 = .ok (.iaload, 1) := by decide +kernel
theorem dL_law_802 : decode cL_law 802 = .ok (.aload_n 0, 1) := by decide +kernel
theorem dL_law_803 : decode cL_law 803 = .ok (.iload_n 3, 1) := by decide +kernel
theorem dL_law_804 : decode cL_law 804 = .ok (.iconst 2, 1) := by decide +kernel
theorem dL_law_805 : decode cL_law 805 = .ok (.iadd, 1) := by decide +kernel
theorem dL_law_806 : decode cL_law 806 = .ok (.iaload, 1) := by decide +kernel
theorem dL_law_807 : decode cL_law 807 = .ok (.aload_n 0, 1) := by decide +kernel
theorem dL_law_808 : decode cL_law 808 = .ok (.iload_n 3, 1) := by decide +kernel
theorem dL_law_809 : decode cL_law 809 = .ok (.iconst 3, 1) := by decide +kernel
theorem dL_law_810 : decode cL_law 810 = .ok (.iadd, 1) := by decide +kernel
theorem dL_law_811 : decode cL_law 811 = .ok (.iaload, 1) := by decide +kernel
theorem dL_law_812 : decode cL_law 812 = .ok (.aload_n 0, 1) := by decide +kernel
theorem dL_law_813 : decode cL_law 813 = .ok (.iload_n 3, 1) := by decide +kernel
theorem dL_law_814 : decode cL_law 814 = .ok (.iconst 4, 1) := by decide +kernel
theorem dL_law_815 : decode cL_law 815 = .ok (.iadd, 1) := by decide +kernel
theorem dL_law_816 : decode cL_law 816 = .ok (.iaload, 1) := by decide +kernel
theorem dL_law_817 : decode cL_law 817 = .ok (.invokevirtual 69, 3) := by decide +kernel
theorem dL_law_820 : decode cL_law 820 = .ok (.aload_n 2, 1) := by decide +kernel
theorem dL_law_821 : decode cL_law 821 = .ok (.aload_n 0, 1) := by decide +kernel
theorem dL_law_822 : decode cL_law 822 = .ok (.iload_n 3, 1) := by decide +kernel
theorem dL_law_823 : decode cL_law 823 = .ok (.iconst 1, 1) := by decide +kernel
theorem dL_law_824 : decode cL_law 824 = .ok (.iadd, 1) := by decide +kernel
theorem dL_law_825 : decode cL_law 825 = .ok (.iaload, 1) := by decide +kernel
theorem dL_law_826 : decode cL_law 826 = .ok (.aload_n 0, 1) := by decide +kernel
theorem dL_law_827 : decode cL_law 827 = .ok (.iload_n 3, 1) := by decide +kernel
theorem dL_law_828 : decode cL_law 828 = .ok (.iconst 2, 1) := by decide +kernel
theorem dL_law_829 : decode cL_law 829 = .ok (.iadd, 1) := by decide +kernel
theorem dL_law_830 : decode cL_law 830 = .ok (.iaload, 1) := by decide +kernel
theorem dL_law_831 : decode cL_law 831 = .ok (.aload_n 0, 1) := by decide +kernel
theorem dL_law_832 : decode cL_law 832 = .ok (.iload_n 3, 1) := by decide +kernel
theorem dL_law_833 : decode cL_law 833 = .ok (.iconst 3, 1) := by decide +kernel
theorem dL_law_834 : decode cL_law 834 = .ok (.iadd, 1) := by decide +kernel
theorem dL_law_835 : decode cL_law 835 = .ok (.iaload, 1) := by decide +kernel
theorem dL_law_836 : decode cL_law 836 = .ok (.aload_n 0, 1) := by decide +kernel
theorem dL_law_837 : decode cL_law 837 = .ok (.iload_n 3, 1) := by decide +kernel
theorem dL_law_838 : decode cL_law 838 = .ok (.iconst 4, 1) := by decide +kernel
theorem dL_law_839 : decode cL_law 839 = .ok (.iadd, 1) := by decide +kernel
theorem dL_law_840 : decode cL_law 840 = .ok (.iaload, 1) := by decide +kernel
theorem dL_law_841 : decode cL_law 841 = .ok (.invokevirtual 72, 3) := by decide +kernel
theorem dL_law_844 : decode cL_law 844 = .ok (.if_icmp .eq 779, 3) := by decide +kernel
theorem dL_law_847 : decode cL_law 847 = .ok (.iconst 0, 1) := by decide +kernel
theorem dL_law_848 : decode cL_law 848 = .ok (.ireturn, 1) := by decide +kernel
theorem dL_law_849 : decode cL_law 849 = .ok (.aload_n 1, 1) := by decide +kernel
theorem dL_law_850 : decode cL_law 850 = .ok (.aload_n 0, 1) := by decide +kernel
theorem dL_law_851 : decode cL_law 851 = .ok (.iload_n 3, 1) := by decide +kernel
theorem dL_law_852 : decode cL_law 852 = .ok (.iconst 1, 1) := by decide +kernel
theorem dL_law_853 : decode cL_law 853 = .ok (.iadd, 1) := by decide +kernel
theorem dL_law_854 : decode cL_law 854 = .ok (.iaload, 1) := by decide +kernel
theorem dL_law_855 : decode cL_law 855 = .ok (.invokevirtual 73, 3) := by decide +kernel
theorem dL_law_858 : decode cL_law 858 = .ok (.aload_n 2, 1) := by decide +kernel
theorem dL_law_859 : decode cL_law 859 = .ok (.aload_n 0, 1) := by decide +kernel
theorem dL_law_860 : decode cL_law 860 = .ok (.iload_n 3, 1) := by decide +kernel
theorem dL_law_861 : decode cL_law 861 = .ok (.iconst 1, 1) := by decide +kernel
theorem dL_law_862 : decode cL_law 862 = .ok (.iadd, 1) := by decide +kernel
theorem dL_law_863 : decode cL_law 863 = .ok (.iaload, 1) := by decide +kernel
theorem dL_law_864 : decode cL_law 864 = .ok (.invokevirtual 76, 3) := by decide +kernel
theorem dL_law_867 : decode cL_law 867 = .ok (.if_icmp .eq 756, 3) := by decide +kernel
theorem dL_law_870 : decode cL_law 870 = .ok (.iconst 0, 1) := by decide +kernel
theorem dL_law_871 : decode cL_law 871 = .ok (.ireturn, 1) := by decide +kernel
theorem dL_law_872 : decode cL_law 872 = .ok (.aload_n 1, 1) := by decide +kernel
theorem dL_law_873 : decode cL_law 873 = .ok (.aload_n 0, 1) := by decide +kernel
theorem dL_law_874 : decode cL_law 874 = .ok (.iload_n 3, 1) := by decide +kernel
theorem dL_law_875 : decode cL_law 875 = .ok (.iconst 1, 1) := by decide +kernel
theorem dL_law_876 : decode cL_law 876 = .ok (.iadd, 1) := by decide +kernel
theorem dL_law_877 : decode cL_law 877 = .ok (.iaload, 1) := by decide +kernel
theorem dL_law_878 : decode cL_law 878 = .ok (.invokevirtual 77, 3) := by decide +kernel
theorem dL_law_881 : decode cL_law 881 = .ok (.aload_n 2, 1) := by decide +kernel
theorem dL_law_882 : decode cL_law 882 = .ok (.aload_n 0, 1) := by decide +kernel
theorem dL_law_883 : decode cL_law 883 = .ok (.iload_n 3, 1) := by decide +kernel
theorem dL_law_884 : decode cL_law 884 = .ok (.iconst 1, 1) := by decide +kernel
theorem dL_law_885 : decode cL_law 885 = .ok (.iadd, 1) := by decide +kernel
theorem dL_law_886 : decode cL_law 886 = .ok (.iaload, 1) := by decide +kernel
theorem dL_law_887 : decode cL_law 887 = .ok (.invokevirtual 80, 3) := by decide +kernel
theorem dL_law_890 : decode cL_law 890 = .ok (.if_icmp .eq 733, 3) := by decide +kernel
theorem dL_law_893 : decode cL_law 893 = .ok (.iconst 0, 1) := by decide +kernel
theorem dL_law_894 : decode cL_law 894 = .ok (.ireturn, 1) := by decide +kernel
theorem dL_law_895 : decode cL_law 895 = .ok (.aload_n 1, 1) := by decide +kernel
theorem dL_law_896 : decode cL_law 896 = .ok (.invokevirtual 81, 3) := by decide +kernel
theorem dL_law_899 : decode cL_law 899 = .ok (.aload_n 2, 1) := by decide +kernel
theorem dL_law_900 : decode cL_law 900 = .ok (.invokevirtual 85, 3) := by decide +kernel
theorem dL_law_903 : decode cL_law 903 = .ok (.if_icmp .eq 720, 3) := by decide +kernel
theorem dL_law_906 : decode cL_law 906 = .ok (.iconst 0, 1) := by decide +kernel
theorem dL_law_907 : decode cL_law 907 = .ok (.ireturn, 1) := by decide +kernel
theorem dL_law_908 : decode cL_law 908 = .ok (.aload_n 1, 1) := by decide +kernel
theorem dL_law_909 : decode cL_law 909 = .ok (.invokevirtual 86, 3) := by decide +kernel
theorem dL_law_912 : decode cL_law 912 = .ok (.aload_n 2, 1) := by decide +kernel
theorem dL_law_913 : decode cL_law 913 = .ok (.invokevirtual 89, 3) := by decide +kernel
theorem dL_law_916 : decode cL_law 916 = .ok (.if_icmp .eq 707, 3) := by decide +kernel
theorem dL_law_919 : decode cL_law 919 = .ok (.iconst 0, 1) := by decide +kernel
theorem dL_law_920 : decode cL_law 920 = .ok (.ireturn, 1) := by decide +kernel
theorem dL_law_921 : decode cL_law 921 = .ok (.aload_n 1, 1) := by decide +kernel
theorem dL_law_922 : decode cL_law 922 = .ok (.aload_n 0, 1) := by decide +kernel
theorem dL_law_923 : decode cL_law 923 = .ok (.iload_n 3, 1) := by decide +kernel
theorem dL_law_924 : decode cL_law 924 = .ok (.iconst 1, 1) := by decide +kernel
theorem dL_law_925 : decode cL_law 925 = .ok (.iadd, 1) := by decide +kernel
theorem dL_law_926 : decode cL_law 926 = .ok (.iaload, 1) := by decide +kernel
theorem dL_law_927 : decode cL_law 927 = .ok (.invokevirtual 90, 3) := by decide +kernel
theorem dL_law_930 : decode cL_law 930 = .ok (.aload_n 2, 1) := by decide +kernel
theorem dL_law_931 : decode cL_law 931 = .ok (.aload_n 0, 1) := by decide +kernel
theorem dL_law_932 : decode cL_law 932 = .ok (.iload_n 3, 1) := by decide +kernel
theorem dL_law_933 : decode cL_law 933 = .ok (.iconst 1, 1) := by decide +kernel
theorem dL_law_934 : decode cL_law 934 = .ok (.iadd, 1) := by decide +kernel
theorem dL_law_935 : decode cL_law 935 = .ok (.iaload, 1) := by decide +kernel
theorem dL_law_936 : decode cL_law 936 = .ok (.invokevirtual 93, 3) := by decide +kernel
theorem dL_law_939 : decode cL_law 939 = .ok (.if_icmp .eq 684, 3) := by decide +kernel
theorem dL_law_942 : decode cL_law 942 = .ok (.iconst 0, 1) := by decide +kernel
theorem dL_law_943 : decode cL_law 943 = .ok (.ireturn, 1) := by decide +kernel
theorem dL_law_944 : decode cL_law 944 = .ok (.aload_n 1, 1) := by decide +kernel
theorem dL_law_945 : decode cL_law 945 = .ok (.aload_n 0, 1) := by decide +kernel
theorem dL_law_946 : decode cL_law 946 = .ok (.iload_n 3, 1) := by decide +kernel
theorem dL_law_947 : decode cL_law 947 = .ok (.iconst 1, 1) := by decide +kernel
theorem dL_law_948 : decode cL_law 948 = .ok (.iadd, 1) := by decide +kernel
theorem dL_law_949 : decode cL_law 949 = .ok (.iaload, 1) := by decide +kernel
theorem dL_law_950 : decode cL_law 950 = .ok (.invokevirtual 94, 3) := by decide +kernel
theorem dL_law_953 : decode cL_law 953 = .ok (.aload_n 2, 1) := by decide +kernel
theorem dL_law_954 : decode cL_law 954 = .ok (.aload_n 0, 1) := by decide +kernel
theorem dL_law_955 : decode cL_law 955 = .ok (.iload_n 3, 1) := by decide +kernel
theorem dL_law_956 : decode cL_law 956 = .ok (.iconst 1, 1) := by decide +kernel
theorem dL_law_957 : decode cL_law 957 = .ok (.iadd, 1) := by decide +kernel
theorem dL_law_958 : decode cL_law 958 = .ok (.iaload, 1) := by decide +kernel
theorem dL_law_959 : decode cL_law 959 = .ok (.invokevirtual 97, 3) := by decide +kernel
theorem dL_law_962 : decode cL_law 962 = .ok (.if_icmp .eq 661, 3) := by decide +kernel
theorem dL_law_965 : decode cL_law 965 = .ok (.iconst 0, 1) := by decide +kernel
theorem dL_law_966 : decode cL_law 966 = .ok (.ireturn, 1) := by decide +kernel
theorem dL_law_967 : decode cL_law 967 = .ok (.aload_n 1, 1) := by decide +kernel
theorem dL_law_968 : decode cL_law 968 = .ok (.invokevirtual 98, 3) := by decide +kernel
theorem dL_law_971 : decode cL_law 971 = .ok (.aload_n 2, 1) := by decide +kernel
theorem dL_law_972 : decode cL_law 972 = .ok (.invokevirtual 101, 3) := by decide +kernel
theorem dL_law_975 : decode cL_law 975 = .ok (.if_icmp .eq 648, 3) := by decide +kernel
theorem dL_law_978 : decode cL_law 978 = .ok (.iconst 0, 1) := by decide +kernel
theorem dL_law_979 : decode cL_law 979 = .ok (.ireturn, 1) := by decide +kernel
theorem dL_law_980 : decode cL_law 980 = .ok (.aload_n 1, 1) := by decide +kernel
theorem dL_law_981 : decode cL_law 981 = .ok (.invokevirtual 102, 3) := by decide +kernel
theorem dL_law_984 : decode cL_law 984 = .ok (.aload_n 2, 1) := by decide +kernel
theorem dL_law_985 : decode cL_law 985 = .ok (.invokevirtual 105, 3) := by decide +kernel
theorem dL_law_988 : decode cL_law 988 = .ok (.if_icmp .eq 635, 3) := by decide +kernel
theorem dL_law_991 : decode cL_law 991 = .ok (.iconst 0, 1) := by decide +kernel
theorem dL_law_992 : decode cL_law 992 = .ok (.ireturn, 1) := by decide +kernel
theorem dL_law_993 : decode cL_law 993 = .ok (.aload_n 1, 1) := by decide +kernel
theorem dL_law_994 : decode cL_law 994 = .ok (.aload_n 0, 1) := by decide +kernel
theorem dL_law_995 : decode cL_law 995 = .ok (.iload_n 3, 1) := by decide +kernel
theorem dL_law_996 : decode cL_law 996 = .ok (.iconst 1, 1) := by decide +kernel
theorem dL_law_997 : decode cL_law 997 = .ok (.iadd, 1) := by decide +kernel
theorem dL_law_998 : decode cL_law 998 = .ok (.iaload, 1) := by decide +kernel
theorem dL_law_999 : decode cL_law 999 = .ok (.invokevirtual 106, 3) := by decide +kernel
theorem dL_law_1002 : decode cL_law 1002 = .ok (.aload_n 2, 1) := by decide +kernel
theorem dL_law_1003 : decode cL_law 1003 = .ok (.aload_n 0, 1) := by decide +kernel
theorem dL_law_1004 : decode cL_law 1004 = .ok (.iload_n 3, 1) := by decide +kernel
theorem dL_law_1005 : decode cL_law 1005 = .ok (.iconst 1, 1) := by decide +kernel
theorem dL_law_1006 : decode cL_law 1006 = .ok (.iadd, 1) := by decide +kernel
theorem dL_law_1007 : decode cL_law 1007 = .ok (.iaload, 1) := by decide +kernel
theorem dL_law_1008 : decode cL_law 1008 = .ok (.invokevirtual 109, 3) := by decide +kernel
theorem dL_law_1011 : decode cL_law 1011 = .ok (.if_icmp .eq 612, 3) := by decide +kernel
theorem dL_law_1014 : decode cL_law 1014 = .ok (.iconst 0, 1) := by decide +kernel
theorem dL_law_1015 : decode cL_law 1015 = .ok (.ireturn, 1) := by decide +kernel
theorem dL_law_1016 : decode cL_law 1016 = .ok (.aload_n 1, 1) := by decide +kernel
theorem dL_law_1017 : decode cL_law 1017 = .ok (.aload_n 0, 1) := by decide +kernel
theorem dL_law_1018 : decode cL_law 1018 = .ok (.iload_n 3, 1) := by decide +kernel
theorem dL_law_1019 : decode cL_law 1019 = .ok (.iconst 1, 1) := by decide +kernel
theorem dL_law_1020 : decode cL_law 1020 = .ok (.iadd, 1) := by decide +kernel
theorem dL_law_1021 : decode cL_law 1021 = .ok (.iaload, 1) := by decide +kernel
theorem dL_law_1022 : decode cL_law 1022 = .ok (.invokevirtual 110, 3) := by decide +kernel
theorem dL_law_1025 : decode cL_law 1025 = .ok (.aload_n 2, 1) := by decide +kernel
theorem dL_law_1026 : decode cL_law 1026 = .ok (.aload_n 0, 1) := by decide +kernel
theorem dL_law_1027 : decode cL_law 1027 = .ok (.iload_n 3, 1) := by decide +kernel
theorem dL_law_1028 : decode cL_law 1028 = .ok (.iconst 1, 1) := by decide +kernel
theorem dL_law_1029 : decode cL_law 1029 = .ok (.iadd, 1) := by decide +kernel
theorem dL_law_1030 : decode cL_law 1030 = .ok (.iaload, 1) := by decide +kernel
theorem dL_law_1031 : decode cL_law 1031 = .ok (.invokevirtual 113, 3) := by decide +kernel
theorem dL_law_1034 : decode cL_law 1034 = .ok (.if_icmp .eq 589, 3) := by decide +kernel
theorem dL_law_1037 : decode cL_law 1037 = .ok (.iconst 0, 1) := by decide +kernel
theorem dL_law_1038 : decode cL_law 1038 = .ok (.ireturn, 1) := by decide +kernel
theorem dL_law_1039 : decode cL_law 1039 = .ok (.aload_n 1, 1) := by decide +kernel
end
section
theorem dL_law_1040 : decode cL_law 1040 = .ok (.aload_n 0, 1) := by decide +kernel
theorem dL_law_1041 : decode cL_law 1041 = .ok (.iload_n 3, 1) := by decide +kernel
theorem dL_law_1042 : decode cL_law 1042 = .ok (.iconst 1, 1) := by decide +kernel
theorem dL_law_1043 : decode cL_law 1043 = .ok (.iadd, 1) := by decide +kernel
theorem dL_law_1044 : decode cL_law 1044 = .ok (.iaload, 1) := by decide +kernel
theorem dL_law_1045 : decode cL_law 1045 = .ok (.aload_n 0, 1) := by decide +kernel
theorem dL_law_1046 : decode cL_law 1046 = .ok (.iload_n 3, 1) := by decide +kernel
theorem dL_law_1047 : decode cL_law 1047 = .ok (.iconst 2, 1) := by decide +kernel
theorem dL_law_1048 : decode cL_law 1048 = .ok (.iadd, 1) := by decide +kernel
theorem dL_law_1049 : decode cL_law 1049 = .ok (.iaload, 1) := by decide +kernel
theorem dL_law_1050 : decode cL_law 1050 = .ok (.invokevirtual 114, 3) := by decide +kernel
theorem dL_law_1053 : decode cL_law 1053 = .ok (.aload_n 2, 1) := by decide +kernel
theorem dL_law_1054 : decode cL_law 1054 = .ok (.aload_n 0, 1) := by decide +kernel
theorem dL_law_1055 : decode cL_law 1055 = .ok (.iload_n 3, 1) := by decide +kernel
theorem dL_law_1056 : decode cL_law 1056 = .ok (.iconst 1, 1) := by decide +kernel
theorem dL_law_1057 : decode cL_law 1057 = .ok (.iadd, 1) := by decide +kernel
theorem dL_law_1058 : decode cL_law 1058 = .ok (.iaload, 1) := by decide +kernel
theorem dL_law_1059 : decode cL_law 1059 = .ok (.aload_n 0, 1) := by decide +kernel
theorem dL_law_1060 : decode cL_law 1060 = .ok (.iload_n 3, 1) := by decide +kernel
theorem dL_law_1061 : decode cL_law 1061 = .ok (.iconst 2, 1) := by decide +kernel
theorem dL_law_1062 : decode cL_law 1062 = .ok (.iadd, 1) := by decide +kernel
theorem dL_law_1063 : decode cL_law 1063 = .ok (.iaload, 1) := by decide +kernel
theorem dL_law_1064 : decode cL_law 1064 = .ok (.invokevirtual 117, 3) := by decide +kernel
theorem dL_law_1067 : decode cL_law 1067 = .ok (.if_icmp .eq 556, 3) := by decide +kernel
theorem dL_law_1070 : decode cL_law 1070 = .ok (.iconst 0, 1) := by decide +kernel
theorem dL_law_1071 : decode cL_law 1071 = .ok (.ireturn, 1) := by decide +kernel
theorem dL_law_1072 : decode cL_law 1072 = .ok (.aload_n 1, 1) := by decide +kernel
theorem dL_law_1073 : decode cL_law 1073 = .ok (.aload_n 0, 1) := by decide +kernel
theorem dL_law_1074 : decode cL_law 1074 = .ok (.iload_n 3, 1) := by decide +kernel
theorem dL_law_1075 : decode cL_law 1075 = .ok (.iconst 1, 1) := by decide +kernel
theorem dL_law_1076 : decode cL_law 1076 = .ok (.iadd, 1) := by decide +kernel
theorem dL_law_1077 : decode cL_law 1077 = .ok (.iaload, 1) := by decide +kernel
theorem dL_law_1078 : decode cL_law 1078 = .ok (.aload_n 0, 1) := by decide +kernel
theorem dL_law_1079 : decode cL_law 1079 = .ok (.iload_n 3, 1) := by decide +kernel
theorem dL_law_1080 : decode cL_law 1080 = .ok (.iconst 2, 1) := by decide +kernel
theorem dL_law_1081 : decode cL_law 1081 = .ok (.iadd, 1) := by decide +kernel
theorem dL_law_1082 : decode cL_law 1082 = .ok (.iaload, 1) := by decide +kernel
theorem dL_law_1083 : decode cL_law 1083 = .ok (.aload_n 0, 1) := by decide +kernel
theorem dL_law_1084 : decode cL_law 1084 = .ok (.iload_n 3, 1) := by decide +kernel
theorem dL_law_1085 : decode cL_law 1085 = .ok (.iconst 3, 1) := by decide +kernel
theorem dL_law_1086 : decode cL_law 1086 = .ok (.iadd, 1) := by decide +kernel
theorem dL_law_1087 : decode cL_law 1087 = .ok (.iaload, 1) := by decide +kernel
theorem dL_law_1088 : decode cL_law 1088 = .ok (.invokevirtual 118, 3) := by decide +kernel
theorem dL_law_1091 : decode cL_law 1091 = .ok (.aload_n 2, 1) := by decide +kernel
theorem dL_law_1092 : decode cL_law 1092 = .ok (.aload_n 0, 1) := by decide +kernel
theorem dL_law_1093 : decode cL_law 1093 = .ok (.iload_n 3, 1) := by decide +kernel
theorem dL_law_1094 : decode cL_law 1094 = .ok (.iconst 1, 1) := by decide +kernel
theorem dL_law_1095 : decode cL_law 1095 = .ok (.iadd, 1) := by decide +kernel
theorem dL_law_1096 : decode cL_law 1096 = .ok (.iaload, 1) := by decide +kernel
theorem dL_law_1097 : decode cL_law 1097 = .ok (.aload_n 0, 1) := by decide +kernel
theorem dL_law_1098 : decode cL_law 1098 = .ok (.iload_n 3, 1) := by decide +kernel
theorem dL_law_1099 : decode cL_law 1099 = .ok (.iconst 2, 1) := by decide +kernel
theorem dL_law_1100 : decode cL_law 1100 = .ok (.iadd, 1) := by decide +kernel
theorem dL_law_1101 : decode cL_law 1101 = .ok (.iaload, 1) := by decide +kernel
theorem dL_law_1102 : decode cL_law 1102 = .ok (.aload_n 0, 1) := by decide +kernel
theorem dL_law_1103 : decode cL_law 1103 = .ok (.iload_n 3, 1) := by decide +kernel
theorem dL_law_1104 : decode cL_law 1104 = .ok (.iconst 3, 1) := by decide +kernel
theorem dL_law_1105 : decode cL_law 1105 = .ok (.iadd, 1) := by decide +kernel
theorem dL_law_1106 : decode cL_law 1106 = .ok (.iaload, 1) := by decide +kernel
theorem dL_law_1107 : decode cL_law 1107 = .ok (.invokevirtual 121, 3) := by decide +kernel
theorem dL_law_1110 : decode cL_law 1110 = .ok (.if_icmp .eq 513, 3) := by decide +kernel
theorem dL_law_1113 : decode cL_law 1113 = .ok (.iconst 0, 1) := by decide +kernel
theorem dL_law_1114 : decode cL_law 1114 = .ok (.ireturn, 1) := by decide +kernel
theorem dL_law_1115 : decode cL_law 1115 = .ok (.aload_n 1, 1) := by decide +kernel
theorem dL_law_1116 : decode cL_law 1116 = .ok (.aload_n 0, 1) := by decide +kernel
theorem dL_law_1117 : decode cL_law 1117 = .ok (.iload_n 3, 1) := by decide +kernel
theorem dL_law_1118 : decode cL_law 1118 = .ok (.iconst 1, 1) := by decide +kernel
theorem dL_law_1119 : decode cL_law 1119 = .ok (.iadd, 1) := by decide +kernel
theorem dL_law_1120 : decode cL_law 1120 = .ok (.iaload, 1) := by decide +kernel
theorem dL_law_1121 : decode cL_law 1121 = .ok (.aload_n 0, 1) := by decide +kernel
theorem dL_law_1122 : decode cL_law 1122 = .ok (.iload_n 3, 1) := by decide +kernel
theorem dL_law_1123 : decode cL_law 1123 = .ok (.iconst 2, 1) := by decide +kernel
theorem dL_law_1124 : decode cL_law 1124 = .ok (.iadd, 1) := by decide +kernel
theorem dL_law_1125 : decode cL_law 1125 = .ok (.iaload, 1) := by decide +kernel
theorem dL_law_1126 : decode cL_law 1126 = .ok (.aload_n 0, 1) := by decide +kernel
theorem dL_law_1127 : decode cL_law 1127 = .ok (.iload_n 3, 1) := by decide +kernel
theorem dL_law_1128 : decode cL_law 1128 = .ok (.iconst 3, 1) := by decide +kernel
theorem dL_law_1129 : decode cL_law 1129 = .ok (.iadd, 1) := by decide +kernel
theorem dL_law_1130 : decode cL_law 1130 = .ok (.iaload, 1) := by decide +kernel
theorem dL_law_1131 : decode cL_law 1131 = .ok (.aload_n 0, 1) := by decide +kernel
theorem dL_law_1132 : decode cL_law 1132 = .ok (.iload_n 3, 1) := by decide +kernel
theorem dL_law_1133 : decode cL_law 1133 = .ok (.iconst 4, 1) := by decide +kernel
theorem dL_law_1134 : decode cL_law 1134 = .ok (.iadd, 1) := by decide +kernel
theorem dL_law_1135 : decode cL_law 1135 = .ok (.iaload, 1) := by decide +kernel
theorem dL_law_1136 : decode cL_law 1136 = .ok (.invokevirtual 122, 3) := by decide +kernel
theorem dL_law_1139 : decode cL_law 1139 = .ok (.aload_n 2, 1) := by decide +kernel
theorem dL_law_1140 : decode cL_law 1140 = .ok (.aload_n 0, 1) := by decide +kernel
theorem dL_law_1141 : decode cL_law 1141 = .ok (.iload_n 3, 1) := by decide +kernel
theorem dL_law_1142 : decode cL_law 1142 = .ok (.iconst 1, 1) := by decide +kernel
theorem dL_law_1143 : decode cL_law 1143 = .ok (.iadd, 1) := by decide +kernel
theorem dL_law_1144 : decode cL_law 1144 = .ok (.iaload, 1) := by decide +kernel
theorem dL_law_1145 : decode cL_law 1145 = .ok (.aload_n 0, 1) := by decide +kernel
theorem dL_law_1146 : decode cL_law 1146 = .ok (.iload_n 3, 1) := by decide +kernel
theorem dL_law_1147 : decode cL_law 1147 = .ok (.iconst 2, 1) := by decide +kernel
theorem dL_law_1148 : decode cL_law 1148 = .ok (.iadd, 1) := by decide +kernel
theorem dL_law_1149 : decode cL_law 1149 = .ok (.iaload, 1) := by decide +kernel
theorem dL_law_1150 : decode cL_law 1150 = .ok (.aload_n 0, 1) := by decide +kernel
theorem dL_law_1151 : decode cL_law 1151 = .ok (.iload_n 3, 1) := by decide +kernel
theorem dL_law_1152 : decode cL_law 1152 = .ok (.iconst 3, 1) := by decide +kernel
theorem dL_law_1153 : decode cL_law 1153 = .ok (.iadd, 1) := by decide +kernel
theorem dL_law_1154 : decode cL_law 1154 = .ok (.iaload, 1) := by decide +kernel
theorem dL_law_1155 : decode cL_law 1155 = .ok (.aload_n 0, 1) := by decide +kernel
theorem dL_law_1156 : decode cL_law 1156 = .ok (.iload_n 3, 1) := by decide +kernel
theorem dL_law_1157 : decode cL_law 1157 = .ok (.iconst 4, 1) := by decide +kernel
theorem dL_law_1158 : decode cL_law 1158 = .ok (.iadd, 1) := by decide +kernel
theorem dL_law_1159 : decode cL_law 1159 = .ok (.iaload, 1) := by decide +kernel
theorem dL_law_1160 : decode cL_law 1160 = .ok (.invokevirtual 125, 3) := by decide +kernel
theorem dL_law_1163 : decode cL_law 1163 = .ok (.if_icmp .eq 460, 3) := by decide +kernel
theorem dL_law_1166 : decode cL_law 1166 = .ok (.iconst 0, 1) := by decide +kernel
theorem dL_law_1167 : decode cL_law 1167 = .ok (.ireturn, 1) := by decide +kernel
theorem dL_law_1168 : decode cL_law 1168 = .ok (.aload_n 1, 1) := by decide +kernel
theorem dL_law_1169 : decode cL_law 1169 = .ok (.aload_n 0, 1) := by decide +kernel
theorem dL_law_1170 : decode cL_law 1170 = .ok (.iload_n 3, 1) := by decide +kernel
theorem dL_law_1171 : decode cL_law 1171 = .ok (.iconst 1, 1) := by decide +kernel
theorem dL_law_1172 : decode cL_law 1172 = .ok (.iadd, 1) := by decide +kernel
theorem dL_law_1173 : decode cL_law 1173 = .ok (.iaload, 1) := by decide +kernel
theorem dL_law_1174 : decode cL_law 1174 = .ok (.invokevirtual 126, 3) := by decide +kernel
theorem dL_law_1177 : decode cL_law 1177 = .ok (.aload_n 2, 1) := by decide +kernel
theorem dL_law_1178 : decode cL_law 1178 = .ok (.aload_n 0, 1) := by decide +kernel
theorem dL_law_1179 : decode cL_law 1179 = .ok (.iload_n 3, 1) := by decide +kernel
theorem dL_law_1180 : decode cL_law 1180 = .ok (.iconst 1, 1) := by decide +kernel
theorem dL_law_1181 : decode cL_law 1181 = .ok (.iadd, 1) := by decide +kernel
theorem dL_law_1182 : decode cL_law 1182 = .ok (.iaload, 1) := by decide +kernel
theorem dL_law_1183 : decode cL_law 1183 = .ok (.invokevirtual 129, 3) := by decide +kernel
theorem dL_law_1186 : decode cL_law 1186 = .ok (.if_icmp .eq 437, 3) := by decide +kernel
theorem dL_law_1189 : decode cL_law 1189 = .ok (.iconst 0, 1) := by decide +kernel
theorem dL_law_1190 : decode cL_law 1190 = .ok (.ireturn, 1) := by decide +kernel
theorem dL_law_1191 : decode cL_law 1191 = .ok (.aload_n 1, 1) := by decide +kernel
theorem dL_law_1192 : decode cL_law 1192 = .ok (.aload_n 0, 1) := by decide +kernel
theorem dL_law_1193 : decode cL_law 1193 = .ok (.iload_n 3, 1) := by decide +kernel
theorem dL_law_1194 : decode cL_law 1194 = .ok (.iconst 1, 1) := by decide +kernel
theorem dL_law_1195 : decode cL_law 1195 = .ok (.iadd, 1) := by decide +kernel
theorem dL_law_1196 : decode cL_law 1196 = .ok (.iaload, 1) := by decide +kernel
theorem dL_law_1197 : decode cL_law 1197 = .ok (.aload_n 0, 1) := by decide +kernel
theorem dL_law_1198 : decode cL_law 1198 = .ok (.iload_n 3, 1) := by decide +kernel
theorem dL_law_1199 : decode cL_law 1199 = .ok (.iconst 2, 1) := by decide +kernel
theorem dL_law_1200 : decode cL_law 1200 = .ok (.iadd, 1) := by decide +kernel
theorem dL_law_1201 : decode cL_law 1201 = .ok (.iaload, 1) := by decide +kernel
theorem dL_law_1202 : decode cL_law 1202 = .ok (.aload_n 0, 1) := by decide +kernel
theorem dL_law_1203 : decode cL_law 1203 = .ok (.iload_n 3, 1) := by decide +kernel
theorem dL_law_1204 : decode cL_law 1204 = .ok (.iconst 3, 1) := by decide +kernel
theorem dL_law_1205 : decode cL_law 1205 = .ok (.iadd, 1) := by decide +kernel
theorem dL_law_1206 : decode cL_law 1206 = .ok (.iaload, 1) := by decide +kernel
theorem dL_law_1207 : decode cL_law 1207 = .ok (.invokevirtual 130, 3) := by decide +kernel
theorem dL_law_1210 : decode cL_law 1210 = .ok (.aload_n 2, 1) := by decide +kernel
theorem dL_law_1211 : decode cL_law 1211 = .ok (.aload_n 0, 1) := by decide +kernel
theorem dL_law_1212 : decode cL_law 1212 = .ok (.iload_n 3, 1) := by decide +kernel
theorem dL_law_1213 : decode cL_law 1213 = .ok (.iconst 1, 1) := by decide +kernel
theorem dL_law_1214 : decode cL_law 1214 = .ok (.iadd, 1) := by decide +kernel
theorem dL_law_1215 : decode cL_law 1215 = .ok (.iaload, 1) := by decide +kernel
theorem dL_law_1216 : decode cL_law 1216 = .ok (.aload_n 0, 1) := by decide +kernel
theorem dL_law_1217 : decode cL_law 1217 = .ok (.iload_n 3, 1) := by decide +kernel
theorem dL_law_1218 : decode cL_law 1218 = .ok (.iconst 2, 1) := by decide +kernel
theorem dL_law_1219 : decode cL_law 1219 = .ok (.iadd, 1) := by decide +kernel
theorem dL_law_1220 : decode cL_law 1220 = .ok (.iaload, 1) := by decide +kernel
theorem dL_law_1221 : decode cL_law 1221 = .ok (.aload_n 0, 1) := by decide +kernel
theorem dL_law_1222 : decode cL_law 1222 = .ok (.iload_n 3, 1) := by decide +kernel
theorem dL_law_1223 : decode cL_law 1223 = .ok (.iconst 3, 1) := by decide +kernel
theorem dL_law_1224 : decode cL_law 1224 = .ok (.iadd, 1) := by decide +kernel
theorem dL_law_1225 : decode cL_law 1225 = .ok (.iaload, 1) := by decide +kernel
theorem dL_law_1226 : decode cL_law 1226 = .ok (.invokevirtual 133, 3) := by decide +kernel
theorem dL_law_1229 : decode cL_law 1229 = .ok (.if_icmp .eq 394, 3) := by decide +kernel
theorem dL_law_1232 : decode cL_law 1232 = .ok (.iconst 0, 1) := by decide +kernel
theorem dL_law_1233 : decode cL_law 1233 = .ok (.ireturn, 1) := by decide +kernel
theorem dL_law_1234 : decode cL_law 1234 = .ok (.aload_n 1, 1) := by decide +kernel
theorem dL_law_1235 : decode cL_law 1235 = .ok (.aload_n 0, 1) := by decide +kernel
theorem dL_law_1236 : decode cL_law 1236 = .ok (.iload_n 3, 1) := by decide +kernel
theorem dL_law_1237 : decode cL_law 1237 = .ok (.iconst 1, 1) := by decide +kernel
theorem dL_law_1238 : decode cL_law 1238 = .ok (.iadd, 1) := by decide +kernel
theorem dL_law_1239 : decode cL_law 1239 = .ok (.iaload, 1) := by decide +kernel
theorem dL_law_1240 : decode cL_law 1240 = .ok (.aload_n 0, 1) := by decide +kernel
theorem dL_law_1241 : decode cL_law 1241 = .ok (.iload_n 3, 1) := by decide +kernel
theorem dL_law_1242 : decode cL_law 1242 = .ok (.iconst 2, 1) := by decide +kernel
theorem dL_law_1243 : decode cL_law 1243 = .ok (.iadd, 1) := by decide +kernel
theorem dL_law_1244 : decode cL_law 1244 = .ok (.iaload, 1) := by decide +kernel
theorem dL_law_1245 : decode cL_law 1245 = .ok (.invokevirtual 134, 3) := by decide +kernel
theorem dL_law_1248 : decode cL_law 1248 = .ok (.aload_n 2, 1) := by decide +kernel
theorem dL_law_1249 : decode cL_law 1249 = .ok (.aload_n 0, 1) := by decide +kernel
theorem dL_law_1250 : decode cL_law 1250 = .ok (.iload_n 3, 1) := by decide +kernel
theorem dL_law_1251 : decode cL_law 1251 = .ok (.iconst 1, 1) := by decide +kernel
theorem dL_law_1252 : decode cL_law 1252 = .ok (.iadd, 1) := by decide +kernel
theorem dL_law_1253 : decode cL_law 1253 = .ok (.iaload, 1) := by decide +kernel
theorem dL_law_1254 : decode cL_law 1254 = .ok (.aload_n 0, 1) := by decide +kernel
theorem dL_law_1255 : decode cL_law 1255 = .ok (.iload_n 3, 1) := by decide +kernel
theorem dL_law_1256 : decode cL_law 1256 = .ok (.iconst 2, 1) := by decide +kernel
theorem dL_law_1257 : decode cL_law 1257 = .ok (.iadd, 1) := by decide +kernel
theorem dL_law_1258 : decode cL_law 1258 = .ok (.iaload, 1) := by decide +kernel
theorem dL_law_1259 : decode cL_law 1259 = .ok (.invokevirtual 137, 3) := by decide +kernel
theorem dL_law_1262 : decode cL_law 1262 = .ok (.if_icmp .eq 361, 3) := by decide +kernel
theorem dL_law_1265 : decode cL_law 1265 = .ok (.iconst 0, 1) := by decide +kernel
theorem dL_law_1266 : decode cL_law 1266 = .ok (.ireturn, 1) := by decide +kernel
theorem dL_law_1267 : decode cL_law 1267 = .ok (.aload_n 1, 1) := by decide +kernel
theorem dL_law_1268 : decode cL_law 1268 = .ok (.aload_n 0, 1) := by decide +kernel
theorem dL_law_1269 : decode cL_law 1269 = .ok (.iload_n 3, 1) := by decide +kernel
theorem dL_law_1270 : decode cL_law 1270 = .ok (.iconst 1, 1) := by decide +kernel
theorem dL_law_1271 : decode cL_law 1271 = .ok (.iadd, 1) := by decide +kernel
theorem dL_law_1272 : decode cL_law 1272 = .ok (.iaload, 1) := by decide +kernel
theorem dL_law_1273 : decode cL_law 1273 = .ok (.invokevirtual 138, 3) := by decide +kernel
theorem dL_law_1276 : decode cL_law 1276 = .ok (.aload_n 2, 1) := by decide +kernel
theorem dL_law_1277 : decode cL_law 1277 = .ok (.aload_n 0, 1) := by decide +kernel
theorem dL_law_1278 : decode cL_law 1278 = .ok (.iload_n 3, 1) := by decide +kernel
theorem dL_law_1279 : decode cL_law 1279 = .ok (.iconst 1, 1) := by decide +kernel
theorem dL_law_1280 : decode cL_law 1280 = .ok (.iadd, 1) := by decide +kernel
theorem dL_law_1281 : decode cL_law 1281 = .ok (.iaload, 1) := by decide +kernel
theorem dL_law_1282 : decode cL_law 1282 = .ok (.invokevirtual 141, 3) := by decide +kernel
theorem dL_law_1285 : decode cL_law 1285 = .ok (.if_icmp .eq 338, 3) := by decide +kernel
theorem dL_law_1288 : decode cL_law 1288 = .ok (.iconst 0, 1) := by decide +kernel
theorem dL_law_1289 : decode cL_law 1289 = .ok (.ireturn, 1) := by decide +kernel
theorem dL_law_1290 : decode cL_law 1290 = .ok (.aload_n 1, 1) := by decide +kernel
theorem dL_law_1291 : decode cL_law 1291 = .ok (.aload_n 0, 1) := by decide +kernel
theorem dL_law_1292 : decode cL_law 1292 = .ok (.iload_n 3, 1) := by decide +kernel
theorem dL_law_1293 : decode cL_law 1293 = .ok (.iconst 1, 1) := by decide +kernel
theorem dL_law_1294 : decode cL_law 1294 = .ok (.iadd, 1) := by decide +kernel
theorem dL_law_1295 : decode cL_law 1295 = .ok (.iaload, 1) := by decide +kernel
theorem dL_law_1296 : decode cL_law 1296 = .ok (.invokevirtual 142, 3) := by decide +kernel
theorem dL_law_1299 : decode cL_law 1299 = .ok (.aload_n 2, 1) := by decide +kernel
theorem dL_law_1300 : decode cL_law 1300 = .ok (.aload_n 0, 1) := by decide +kernel
theorem dL_law_1301 : decode cL_law 1301 = .ok (.iload_n 3, 1) := by decide +kernel
theorem dL_law_1302 : decode cL_law 1302 = .ok (.iconst 1, 1) := by decide +kernel
theorem dL_law_1303 : decode cL_law 1303 = .ok (.iadd, 1) := by decide +kernel
theorem dL_law_1304 : decode cL_law 1304 = .ok (.iaload, 1) := by decide +kernel
theorem dL_law_1305 : decode cL_law 1305 = .ok (.invokevirtual 145, 3) := by decide +kernel
theorem dL_law_1308 : decode cL_law 1308 = .ok (.if_icmp .eq 315, 3) := by decide +kernel
theorem dL_law_1311 : decode cL_law 1311 = .ok (.iconst 0, 1) := by decide +kernel
theorem dL_law_1312 : decode cL_law 1312 = .ok (.ireturn, 1) := by decide +kernel
theorem dL_law_1313 : decode cL_law 1313 = .ok (.aload_n 1, 1) := by decide +kernel
theorem dL_law_1314 : decode cL_law 1314 = .ok (.aload_n 0, 1) := by decide +kernel
theorem dL_law_1315 : decode cL_law 1315 = .ok (.iload_n 3, 1) := by decide +kernel
theorem dL_law_1316 : decode cL_law 1316 = .ok (.iconst 1, 1) := by decide +kernel
theorem dL_law_1317 : decode cL_law 1317 = .ok (.iadd, 1) := by decide +kernel
theorem dL_law_1318 : decode cL_law 1318 = .ok (.iaload, 1) := by decide +kernel
theorem dL_law_1319 : decode cL_law 1319 = .ok (.aload_n 0, 1) := by decide +kernel
theorem dL_law_1320 : decode cL_law 1320 = .ok (.iload_n 3, 1) := by decide +kernel
theorem dL_law_1321 : decode cL_law 1321 = .ok (.iconst 2, 1) := by decide +kernel
theorem dL_law_1322 : decode cL_law 1322 = .ok (.iadd, 1) := by decide +kernel
theorem dL_law_1323 : decode cL_law 1323 = .ok (.iaload, 1) := by decide +kernel
theorem dL_law_1324 : decode cL_law 1324 = .ok (.invokevirtual 146, 3) := by decide +kernel
theorem dL_law_1327 : decode cL_law 1327 = .ok (.aload_n 2, 1) := by decide +kernel
theorem dL_law_1328 : decode cL_law 1328 = .ok (.aload_n 0, 1) := by decide +kernel
theorem dL_law_1329 : decode cL_law 1329 = .ok (.iload_n 3, 1) := by decide +kernel
theorem dL_law_1330 : decode cL_law 1330 = .ok (.iconst 1, 1) := by decide +kernel
theorem dL_law_1331 : decode cL_law 1331 = .ok (.iadd, 1) := by decide +kernel
theorem dL_law_1332 : decode cL_law 1332 = .ok (.iaload, 1) := by decide +kernel
theorem dL_law_1333 : decode cL_law 1333 = .ok (.aload_n 0, 1) := by decide +kernel
theorem dL_law_1334 : decode cL_law 1334 = .ok (.iload_n 3, 1) := by decide +kernel
theorem dL_law_1335 : decode cL_law 1335 = .ok (.iconst 2, 1) := by decide +kernel
theorem dL_law_1336 : decode cL_law 1336 = .ok (.iadd, 1) := by decide +kernel
theorem dL_law_1337 : decode cL_law 1337 = .ok (.iaload, 1) := by decide +kernel
theorem dL_law_1338 : decode cL_law 1338 = .ok (.invokevirtual 149, 3) := by decide +kernel
theorem dL_law_1341 : decode cL_law 1341 = .ok (.if_icmp .eq 282, 3) := by decide +kernel
theorem dL_law_1344 : decode cL_law 1344 = .ok (.iconst 0, 1) := by decide +kernel
theorem dL_law_1345 : decode cL_law 1345 = .ok (.ireturn, 1) := by decide +kernel
theorem dL_law_1346 : decode cL_law 1346 = .ok (.aload_n 1, 1) := by decide +kernel
theorem dL_law_1347 : decode cL_law 1347 = .ok (.aload_n 0, 1) := by decide +kernel
theorem dL_law_1348 : decode cL_law 1348 = .ok (.iload_n 3, 1) := by decide +kernel
theorem dL_law_1349 : decode cL_law 1349 = .ok (.iconst 1, 1) := by decide +kernel
theorem dL_law_1350 : decode cL_law 1350 = .ok (.iadd, 1) := by decide +kernel
theorem dL_law_1351 : decode cL_law 1351 = .ok (.iaload, 1) := by decide +kernel
theorem dL_law_1352 : decode cL_law 1352 = .ok (.aload_n 0, 1) := by decide +kernel
theorem dL_law_1353 : decode cL_law 1353 = .ok (.iload_n 3, 1) := by decide +kernel
theorem dL_law_1354 : decode cL_law 1354 = .ok (.iconst 2, 1) := by decide +kernel
theorem dL_law_1355 : decode cL_law 1355 = .ok (.iadd, 1) := by decide +kernel
theorem dL_law_1356 : decode cL_law 1356 = .ok (.iaload, 1) := by decide +kernel
theorem dL_law_1357 : decode cL_law 1357 = .ok (.invokevirtual 150, 3) := by decide +kernel
theorem dL_law_1360 : decode cL_law 1360 = .ok (.aload_n 2, 1) := by decide +kernel
theorem dL_law_1361 : decode cL_law 1361 = .ok (.aload_n 0, 1) := by decide +kernel
theorem dL_law_1362 : decode cL_law 1362 = .ok (.iload_n 3, 1) := by decide +kernel
theorem dL_law_1363 : decode cL_law 1363 = .ok (.iconst 1, 1) := by decide +kernel
theorem dL_law_1364 : decode cL_law 1364 = .ok (.iadd, 1) := by decide +kernel
theorem dL_law_1365 : decode cL_law 1365 = .ok (.iaload, 1) := by decide +kernel
theorem dL_law_1366 : decode cL_law 1366 = .ok (.aload_n 0, 1) := by decide +kernel
theorem dL_law_1367 : decode cL_law 1367 = .ok (.iload_n 3, 1) := by decide +kernel
theorem dL_law_1368 : decode cL_law 1368 = .ok (.iconst 2, 1) := by decide +kernel
theorem dL_law_1369 : decode cL_law 1369 = .ok (.iadd, 1) := by decide +kernel
theorem dL_law_1370 : decode cL_law 1370 = .ok (.iaload, 1) := by decide +kernel
theorem dL_law_1371 : decode cL_law 1371 = .ok (.invokevirtual 153, 3) := by decide +kernel
theorem dL_law_1374 : decode cL_law 1374 = .ok (.if_icmp .eq 249, 3) := by decide +kernel
theorem dL_law_1377 : decode cL_law 1377 = .ok (.iconst 0, 1) := by decide +kernel
theorem dL_law_1378 : decode cL_law 1378 = .ok (.ireturn, 1) := by decide +kernel
theorem dL_law_1379 : decode cL_law 1379 = .ok (.aload_n 1, 1) := by decide +kernel
theorem dL_law_1380 : decode cL_law 1380 = .ok (.aload_n 0, 1) := by decide +kernel
theorem dL_law_1381 : decode cL_law 1381 = .ok (.iload_n 3, 1) := by decide +kernel
theorem dL_law_1382 : decode cL_law 1382 = .ok (.iconst 1, 1) := by decide +kernel
theorem dL_law_1383 : decode cL_law 1383 = .ok (.iadd, 1) := by decide +kernel
theorem dL_law_1384 : decode cL_law 1384 = .ok (.iaload, 1) := by decide +kernel
theorem dL_law_1385 : decode cL_law 1385 = .ok (.aload_n 0, 1) := by decide +kernel
theorem dL_law_1386 : decode cL_law 1386 = .ok (.iload_n 3, 1) := by decide +kernel
theorem dL_law_1387 : decode cL_law 1387 = .ok (.iconst 2, 1) := by decide +kernel
theorem dL_law_1388 : decode cL_law 1388 = .ok (.iadd, 1) := by decide +kernel
theorem dL_law_1389 : decode cL_law 1389 = .ok (.iaload, 1) := by decide +kernel
theorem dL_law_1390 : decode cL_law 1390 = .ok (.aload_n 0, 1) := by decide +kernel
theorem dL_law_1391 : decode cL_law 1391 = .ok (.iload_n 3, 1) := by decide +kernel
theorem dL_law_1392 : decode cL_law 1392 = .ok (.iconst 3, 1) := by decide +kernel
theorem dL_law_1393 : decode cL_law 1393 = .ok (.iadd, 1) := by decide +kernel
theorem dL_law_1394 : decode cL_law 1394 = .ok (.iaload, 1) := by decide +kernel
theorem dL_law_1395 : decode cL_law 1395 = .ok (.invokevirtual 154, 3) := by decide +kernel
theorem dL_law_1398 : decode cL_law 1398 = .ok (.aload_n 2, 1) := by decide +kernel
theorem dL_law_1399 : decode cL_law 1399 = .ok (.aload_n 0, 1) := by decide +kernel
theorem dL_law_1400 : decode cL_law 1400 = .ok (.iload_n 3, 1) := by decide +kernel
theorem dL_law_1401 : decode cL_law 1401 = .ok (.iconst 1, 1) := by decide +kernel
theorem dL_law_1402 : decode cL_law 1402 = .ok (.iadd, 1) := by decide +kernel
theorem dL_law_1403 : decode cL_law 1403 = .ok (.iaload, 1) := by decide +kernel
theorem dL_law_1404 : decode cL_law 1404 = .ok (.aload_n 0, 1) := by decide +kernel
theorem dL_law_1405 : decode cL_law 1405 = .ok (.iload_n 3, 1) := by decide +kernel
theorem dL_law_1406 : decode cL_law 1406 = .ok (.iconst 2, 1) := by decide +kernel
theorem dL_law_1407 : decode cL_law 1407 = .ok (.iadd, 1) := by decide +kernel
theorem dL_law_1408 : decode cL_law 1408 = .ok (.iaload, 1) := by decide +kernel
theorem dL_law_1409 : decode cL_law 1409 = .ok (.aload_n 0, 1) := by decide +kernel
theorem dL_law_1410 : decode cL_law 1410 = .ok (.iload_n 3, 1) := by decide +kernel
theorem dL_law_1411 : decode cL_law 1411 = .ok (.iconst 3, 1) := by decide +kernel
theorem dL_law_1412 : decode cL_law 1412 = .ok (.iadd, 1) := by decide +kernel
theorem dL_law_1413 : decode cL_law 1413 = .ok (.iaload, 1) := by decide +kernel
theorem dL_law_1414 : decode cL_law 1414 = .ok (.invokevirtual 157, 3) := by decide +kernel
theorem dL_law_1417 : decode cL_law 1417 = .ok (.if_icmp .eq 206, 3) := by decide +kernel
theorem dL_law_1420 : decode cL_law 1420 = .ok (.iconst 0, 1) := by decide +kernel
theorem dL_law_1421 : decode cL_law 1421 = .ok (.ireturn, 1) := by decide +kernel
theorem dL_law_1422 : decode cL_law 1422 = .ok (.aload_n 1, 1) := by decide +kernel
theorem dL_law_1423 : decode cL_law 1423 = .ok (.aload_n 0, 1) := by decide +kernel
theorem dL_law_1424 : decode cL_law 1424 = .ok (.iload_n 3, 1) := by decide +kernel
theorem dL_law_1425 : decode cL_law 1425 = .ok (.iconst 1, 1) := by decide +kernel
theorem dL_law_1426 : decode cL_law 1426 = .ok (.iadd, 1) := by decide +kernel
theorem dL_law_1427 : decode cL_law 1427 = .ok (.iaload, 1) := by decide +kernel
theorem dL_law_1428 : decode cL_law 1428 = .ok (.invokevirtual 158, 3) := by decide +kernel
theorem dL_law_1431 : decode cL_law 1431 = .ok (.aload_n 2, 1) := by decide +kernel
theorem dL_law_1432 : decode cL_law 1432 = .ok (.aload_n 0, 1) := by decide +kernel
theorem dL_law_1433 : decode cL_law 1433 = .ok (.iload_n 3, 1) := by decide +kernel
theorem dL_law_1434 : decode cL_law 1434 = .ok (.iconst 1, 1) := by decide +kernel
theorem dL_law_1435 : decode cL_law 1435 = .ok (.iadd, 1) := by decide +kernel
theorem dL_law_1436 : decode cL_law 1436 = .ok (.iaload, 1) := by decide +kernel
theorem dL_law_1437 : decode cL_law 1437 = .ok (.invokevirtual 161, 3) := by decide +kernel
theorem dL_law_1440 : decode cL_law 1440 = .ok (.if_icmp .eq 183, 3) := by decide +kernel
theorem dL_law_1443 : decode cL_law 1443 = .ok (.iconst 0, 1) := by decide +kernel
theorem dL_law_1444 : decode cL_law 1444 = .ok (.ireturn, 1) := by decide +kernel
theorem dL_law_1445 : decode cL_law 1445 = .ok (.aload_n 1, 1) := by decide +kernel
theorem dL_law_1446 : decode cL_law 1446 = .ok (.aload_n 0, 1) := by decide +kernel
theorem dL_law_1447 : decode cL_law 1447 = .ok (.iload_n 3, 1) := by decide +kernel
theorem dL_law_1448 : decode cL_law 1448 = .ok (.iconst 1, 1) := by decide +kernel
theorem dL_law_1449 : decode cL_law 1449 = .ok (.iadd, 1) := by decide +kernel
theorem dL_law_1450 : decode cL_law 1450 = .ok (.iaload, 1) := by decide +kernel
theorem dL_law_1451 : decode cL_law 1451 = .ok (.aload_n 0, 1) := by decide +kernel
theorem dL_law_1452 : decode cL_law 1452 = .ok (.iload_n 3, 1) := by decide +kernel
theorem dL_law_1453 : decode cL_law 1453 = .ok (.iconst 2, 1) := by decide +kernel
theorem dL_law_1454 : decode cL_law 1454 = .ok (.iadd, 1) := by decide +kernel
theorem dL_law_1455 : decode cL_law 1455 = .ok (.iaload, 1) := by decide +kernel
theorem dL_law_1456 : decode cL_law 1456 = .ok (.ifCond .eq 7, 3) := by decide +kernel
theorem dL_law_1459 : decode cL_law 1459 = .ok (.iconst 1, 1) := by decide +kernel
theorem dL_law_1460 : decode cL_law 1460 = .ok (.goto 4, 3) := by decide +kernel
theorem dL_law_1463 : decode cL_law 1463 = .ok (.iconst 0, 1) := by decide +kernel
theorem dL_law_1464 : decode cL_law 1464 = .ok (.aload_n 0, 1) := by decide +kernel
theorem dL_law_1465 : decode cL_law 1465 = .ok (.iload_n 3, 1) := by decide +kernel
theorem dL_law_1466 : decode cL_law 1466 = .ok (.iconst 3, 1) := by decide +kernel
theorem dL_law_1467 : decode cL_law 1467 = .ok (.iadd, 1) := by decide +kernel
theorem dL_law_1468 : decode cL_law 1468 = .ok (.iaload, 1) := by decide +kernel
theorem dL_law_1469 : decode cL_law 1469 = .ok (.aload_n 0, 1) := by decide +kernel
theorem dL_law_1470 : decode cL_law 1470 = .ok (.iload_n 3, 1) := by decide +kernel
theorem dL_law_1471 : decode cL_law 1471 = .ok (.iconst 4, 1) := by decide +kernel
theorem dL_law_1472 : decode cL_law 1472 = .ok (.iadd, 1) := by decide +kernel
theorem dL_law_1473 : decode cL_law 1473 = .ok (.iaload, 1) := by decide +kernel
theorem dL_law_1474 : decode cL_law 1474 = .ok (.invokevirtual 162, 3) := by decide +kernel
theorem dL_law_1477 : decode cL_law 1477 = .ok (.aload_n 2, 1) := by decide +kernel
theorem dL_law_1478 : decode cL_law 1478 = .ok (.aload_n 0, 1) := by decide +kernel
theorem dL_law_1479 : decode cL_law 1479 = .ok (.iload_n 3, 1) := by decide +kernel
theorem dL_law_1480 : decode cL_law 1480 = .ok (.iconst 1, 1) := by decide +kernel
theorem dL_law_1481 : decode cL_law 1481 = .ok (.iadd, 1) := by decide +kernel
theorem dL_law_1482 : decode cL_law 1482 = .ok (.iaload, 1) := by decide +kernel
theorem dL_law_1483 : decode cL_law 1483 = .ok (.aload_n 0, 1) := by decide +kernel
theorem dL_law_1484 : decode cL_law 1484 = .ok (.iload_n 3, 1) := by decide +kernel
theorem dL_law_1485 : decode cL_law 1485 = .ok (.iconst 2, 1) := by decide +kernel
theorem dL_law_1486 : decode cL_law 1486 = .ok (.iadd, 1) := by decide +kernel
theorem dL_law_1487 : decode cL_law 1487 = .ok (.iaload, 1) := by decide +kernel
theorem dL_law_1488 : decode cL_law 1488 = .ok (.ifCond .eq 7, 3) := by decide +kernel
theorem dL_law_1491 : decode cL_law 1491 = .ok (.iconst 1, 1) := by decide +kernel
theorem dL_law_1492 : decode cL_law 1492 = .ok (.goto 4, 3) := by decide +kernel
theorem dL_law_1495 : decode cL_law 1495 = .ok (.iconst 0, 1) := by decide +kernel
theorem dL_law_1496 : decode cL_law 1496 = .ok (.aload_n 0, 1) := by decide +kernel
theorem dL_law_1497 : decode cL_law 1497 = .ok (.iload_n 3, 1) := by decide +kernel
theorem dL_law_1498 : decode cL_law 1498 = .ok (.iconst 3, 1) := by decide +kernel
theorem dL_law_1499 : decode cL_law 1499 = .ok (.iadd, 1) := by decide +kernel
theorem dL_law_1500 : decode cL_law 1500 = .ok (.iaload, 1) := by decide +kernel
theorem dL_law_1501 : decode cL_law 1501 = .ok (.aload_n 0, 1) := by decide +kernel
theorem dL_law_1502 : decode cL_law 1502 = .ok (.iload_n 3, 1) := by decide +kernel
theorem dL_law_1503 : decode cL_law 1503 = .ok (.iconst 4, 1) := by decide +kernel
theorem dL_law_1504 : decode cL_law 1504 = .ok (.iadd, 1) := by decide +kernel
theorem dL_law_1505 : decode cL_law 1505 = .ok (.iaload, 1) := by decide +kernel
theorem dL_law_1506 : decode cL_law 1506 = .ok (.invokevirtual 166, 3) := by decide +kernel
theorem dL_law_1509 : decode cL_law 1509 = .ok (.if_icmp .eq 114, 3) := by decide +kernel
theorem dL_law_1512 : decode cL_law 1512 = .ok (.iconst 0, 1) := by decide +kernel
theorem dL_law_1513 : decode cL_law 1513 = .ok (.ireturn, 1) := by decide +kernel
theorem dL_law_1514 : decode cL_law 1514 = .ok (.aload_n 1, 1) := by decide +kernel
theorem dL_law_1515 : decode cL_law 1515 = .ok (.aload_n 0, 1) := by decide +kernel
theorem dL_law_1516 : decode cL_law 1516 = .ok (.iload_n 3, 1) := by decide +kernel
theorem dL_law_1517 : decode cL_law 1517 = .ok (.iconst 1, 1) := by decide +kernel
theorem dL_law_1518 : decode cL_law 1518 = .ok (.iadd, 1) := by decide +kernel
theorem dL_law_1519 : decode cL_law 1519 = .ok (.iaload, 1) := by decide +kernel
theorem dL_law_1520 : decode cL_law 1520 = .ok (.aload_n 0, 1) := by decide +kernel
theorem dL_law_1521 : decode cL_law 1521 = .ok (.iload_n 3, 1) := by decide +kernel
theorem dL_law_1522 : decode cL_law 1522 = .ok (.iconst 2, 1) := by decide +kernel
theorem dL_law_1523 : decode cL_law 1523 = .ok (.iadd, 1) := by decide +kernel
theorem dL_law_1524 : decode cL_law 1524 = .ok (.iaload, 1) := by decide +kernel
theorem dL_law_1525 : decode cL_law 1525 = .ok (.invokevirtual 167, 3) := by decide +kernel
theorem dL_law_1528 : decode cL_law 1528 = .ok (.aload_n 2, 1) := by decide +kernel
theorem dL_law_1529 : decode cL_law 1529 = .ok (.aload_n 0, 1) := by decide +kernel
theorem dL_law_1530 : decode cL_law 1530 = .ok (.iload_n 3, 1) := by decide +kernel
theorem dL_law_1531 : decode cL_law 1531 = .ok (.iconst 1, 1) := by decide +kernel
theorem dL_law_1532 : decode cL_law 1532 = .ok (.iadd, 1) := by decide +kernel
theorem dL_law_1533 : decode cL_law 1533 = .ok (.iaload, 1) := by decide +kernel
theorem dL_law_1534 : decode cL_law 1534 = .ok (.aload_n 0, 1) := by decide +kernel
theorem dL_law_1535 : decode cL_law 1535 = .ok (.iload_n 3, 1) := by decide +kernel
theorem dL_law_1536 : decode cL_law 1536 = .ok (.iconst 2, 1) := by decide +kernel
theorem dL_law_1537 : decode cL_law 1537 = .ok (.iadd, 1) := by decide +kernel
theorem dL_law_1538 : decode cL_law 1538 = .ok (.iaload, 1) := by decide +kernel
theorem dL_law_1539 : decode cL_law 1539 = .ok (.invokevirtual 170, 3) := by decide +kernel
theorem dL_law_1542 : decode cL_law 1542 = .ok (.if_icmp .eq 81, 3) := by decide +kernel
theorem dL_law_1545 : decode cL_law 1545 = .ok (.iconst 0, 1) := by decide +kernel
theorem dL_law_1546 : decode cL_law 1546 = .ok (.ireturn, 1) := by decide +kernel
theorem dL_law_1547 : decode cL_law 1547 = .ok (.aload_n 1, 1) := by decide +kernel
theorem dL_law_1548 : decode cL_law 1548 = .ok (.aload_n 0, 1) := by decide +kernel
theorem dL_law_1549 : decode cL_law 1549 = .ok (.iload_n 3, 1) := by decide +kernel
theorem dL_law_1550 : decode cL_law 1550 = .ok (.iconst 1, 1) := by decide +kernel
theorem dL_law_1551 : decode cL_law 1551 = .ok (.iadd, 1) := by decide +kernel
theorem dL_law_1552 : decode cL_law 1552 = .ok (.iaload, 1) := by decide +kernel
theorem dL_law_1553 : decode cL_law 1553 = .ok (.invokevirtual 171, 3) := by decide +kernel
theorem dL_law_1556 : decode cL_law 1556 = .ok (.f2d, 1) := by decide +kernel
theorem dL_law_1557 : decode cL_law 1557 = .ok (.dstore 4, 2) := by decide +kernel
theorem dL_law_1559 : decode cL_law 1559 = .ok (.aload_n 2, 1) := by decide +kernel
theorem dL_law_1560 : decode cL_law 1560 = .ok (.aload_n 0, 1) := by decide +kernel
theorem dL_law_1561 : decode cL_law 1561 = .ok (.iload_n 3, 1) := by decide +kernel
theorem dL_law_1562 : decode cL_law 1562 = .ok (.iconst 1, 1) := by decide +kernel
theorem dL_law_1563 : decode cL_law 1563 = .ok (.iadd, 1) := by decide +kernel
theorem dL_law_1564 : decode cL_law 1564 = .ok (.iaload, 1) := by decide +kernel
theorem dL_law_1565 : decode cL_law 1565 = .ok (.invokevirtual 175, 3) := by decide +kernel
theorem dL_law_1568 : decode cL_law 1568 = .ok (.f2d, 1) := by decide +kernel
theorem dL_law_1569 : decode cL_law 1569 = .ok (.dstore 6, 2) := by decide +kernel
theorem dL_law_1571 : decode cL_law 1571 = .ok (.dload 4, 2) := by decide +kernel
theorem dL_law_1573 : decode cL_law 1573 = .ok (.dload 6, 2) := by decide +kernel
theorem dL_law_1575 : decode cL_law 1575 = .ok (.dcmp .l, 1) := by decide +kernel
theorem dL_law_1576 : decode cL_law 1576 = .ok (.ifCond .eq 21, 3) := by decide +kernel
theorem dL_law_1579 : decode cL_law 1579 = .ok (.dload 4, 2) := by decide +kernel
theorem dL_law_1581 : decode cL_law 1581 = .ok (.dload 4, 2) := by decide +kernel
theorem dL_law_1583 : decode cL_law 1583 = .ok (.dcmp .l, 1) := by decide +kernel
theorem dL_law_1584 : decode cL_law 1584 = .ok (.ifCond .eq 11, 3) := by decide +kernel
theorem dL_law_1587 : decode cL_law 1587 = .ok (.dload 6, 2) := by decide +kernel
theorem dL_law_1589 : decode cL_law 1589 = .ok (.dload 6, 2) := by decide +kernel
theorem dL_law_1591 : decode cL_law 1591 = .ok (.dcmp .l, 1) := by decide +kernel
theorem dL_law_1592 : decode cL_law 1592 = .ok (.ifCond .ne 5, 3) := by decide +kernel
theorem dL_law_1595 : decode cL_law 1595 = .ok (.iconst 0, 1) := by decide +kernel
theorem dL_law_1596 : decode cL_law 1596 = .ok (.ireturn, 1) := by decide +kernel
theorem dL_law_1597 : decode cL_law 1597 = .ok (.goto 26, 3) := by decide +kernel
theorem dL_law_1600 : decode cL_law 1600 = .ok (.aload_n 1, 1) := by decide +kernel
theorem dL_law_1601 : decode cL_law 1601 = .ok (.aload_n 0, 1) := by decide +kernel
theorem dL_law_1602 : decode cL_law 1602 = .ok (.iload_n 3, 1) := by decide +kernel
theorem dL_law_1603 : decode cL_law 1603 = .ok (.iconst 1, 1) := by decide +kernel
theorem dL_law_1604 : decode cL_law 1604 = .ok (.iadd, 1) := by decide +kernel
theorem dL_law_1605 : decode cL_law 1605 = .ok (.iaload, 1) := by decide +kernel
theorem dL_law_1606 : decode cL_law 1606 = .ok (.invokevirtual 176, 3) := by decide +kernel
theorem dL_law_1609 : decode cL_law 1609 = .ok (.aload_n 2, 1) := by decide +kernel
theorem dL_law_1610 : decode cL_law 1610 = .ok (.aload_n 0, 1) := by decide +kernel
theorem dL_law_1611 : decode cL_law 1611 = .ok (.iload_n 3, 1) := by decide +kernel
theorem dL_law_1612 : decode cL_law 1612 = .ok (.iconst 1, 1) := by decide +kernel
theorem dL_law_1613 : decode cL_law 1613 = .ok (.iadd, 1) := by decide +kernel
theorem dL_law_1614 : decode cL_law 1614 = .ok (.iaload, 1) := by decide +kernel
theorem dL_law_1615 : decode cL_law 1615 = .ok (.invokevirtual 179, 3) := by decide +kernel
theorem dL_law_1618 : decode cL_law 1618 = .ok (.if_icmp .eq 5, 3) := by decide +kernel
theorem dL_law_1621 : decode cL_law 1621 = .ok (.iconst 0, 1) := by decide +kernel
theorem dL_law_1622 : decode cL_law 1622 = .ok (.ireturn, 1) := by decide +kernel
theorem dL_law_1623 : decode cL_law 1623 = .ok (.iinc 3 7, 3) := by decide +kernel
theorem dL_law_1626 : decode cL_law 1626 = .ok (.goto (-1608), 3) := by decide +kernel
theorem dL_law_1629 : decode cL_law 1629 = .ok (.iconst 1, 1) := by decide +kernel
theorem dL_law_1630 : decode cL_law 1630 = .ok (.ireturn, 1) := by decide +kernel
end
section
theorem dX0_init_0 : decode cX0_init 0 = .ok (.aload_n 0, 1) := by decide +kernel
theorem dX0_init_1 : decode cX0_init 1 = .ok (.invokespecial 3, 3) := by decide +kernel
theorem dX0_init_4 : decode cX0_init 4 = .ok (.aload_n 0, 1) := by decide +kernel
theorem dX0_init_5 : decode cX0_init 5 = .ok (.sipush 200, 3) := by decide +kernel
theorem dX0_init_8 : decode cX0_init 8 = .ok (.newarray .int, 2) := by decide +kernel
theorem dX0_init_10 : decode cX0_init 10 = .ok (.putfield 9, 3) := by decide +kernel
theorem dX0_init_13 : decode cX0_init 13 = .ok (.aload_n 0, 1) := by decide +kernel
theorem dX0_init_14 : decode cX0_init 14 = .ok (.sipush 200, 3) := by decide +kernel
theorem dX0_init_17 : decode cX0_init 17 = .ok (.newarray .int, 2) := by decide +kernel
theorem dX0_init_19 : decode cX0_init 19 = .ok (.putfield 15, 3) := by decide +kernel
theorem dX0_init_22 : decode cX0_init 22 = .ok (.aload_n 0, 1) := by decide +kernel
theorem dX0_init_23 : decode cX0_init 23 = .ok (.sipush 200, 3) := by decide +kernel
theorem dX0_init_26 : decode cX0_init 26 = .ok (.newarray .int, 2) := by decide +kernel
theorem dX0_init_28 : decode cX0_init 28 = .ok (.putfield 18, 3) := by decide +kernel
theorem dX0_init_31 : decode cX0_init 31 = .ok (.aload_n 0, 1) := by decide +kernel
theorem dX0_init_32 : decode cX0_init 32 = .ok (.iconst 0, 1) := by decide +kernel
theorem dX0_init_33 : decode cX0_init 33 = .ok (.putfield 21, 3) := by decide +kernel
theorem dX0_init_36 : decode cX0_init 36 = .ok (.aload_n 0, 1) := by decide +kernel
theorem dX0_init_37 : decode cX0_init 37 = .ok (.iconst 0, 1) := by decide +kernel
theorem dX0_init_38 : decode cX0_init 38 = .ok (.putfield 25, 3) := by decide +kernel
theorem dX0_init_41 : decode cX0_init 41 = .ok (.return_, 1) := by decide +kernel
theorem dX0_begin_0 : decode cX0_begin 0 = .ok (.aload_n 0, 1) := by decide +kernel
theorem dX0_begin_1 : decode cX0_begin 1 = .ok (.iconst 0, 1) := by decide +kernel
theorem dX0_begin_2 : decode cX0_begin 2 = .ok (.putfield 21, 3) := by decide +kernel
theorem dX0_begin_5 : decode cX0_begin 5 = .ok (.aload_n 0, 1) := by decide +kernel
theorem dX0_begin_6 : decode cX0_begin 6 = .ok (.iload_n 1, 1) := by decide +kernel
theorem dX0_begin_7 : decode cX0_begin 7 = .ok (.putfield 25, 3) := by decide +kernel
theorem dX0_begin_10 : decode cX0_begin 10 = .ok (.return_, 1) := by decide +kernel
theorem dX0_add_0 : decode cX0_add 0 = .ok (.aload_n 0, 1) := by decide +kernel
theorem dX0_add_1 : decode cX0_add 1 = .ok (.getfield 21, 3) := by decide +kernel
theorem dX0_add_4 : decode cX0_add 4 = .ok (.sipush 200, 3) := by decide +kernel
theorem dX0_add_7 : decode cX0_add 7 = .ok (.if_icmp .lt 4, 3) := by decide +kernel
theorem dX0_add_10 : decode cX0_add 10 = .ok (.return_, 1) := by decide +kernel
theorem dX0_add_11 : decode cX0_add 11 = .ok (.aload_n 0, 1) := by decide +kernel
theorem dX0_add_12 : decode cX0_add 12 = .ok (.getfield 21, 3) := by decide +kernel
theorem dX0_add_15 : decode cX0_add 15 = .ok (.istore 4, 2) := by decide +kernel
theorem dX0_add_17 : decode cX0_add 17 = .ok (.iload 4, 2) := by decide +kernel
theorem dX0_add_19 : decode cX0_add 19 = .ok (.ifCond .le 59, 3) := by decide +kernel
theorem dX0_add_22 : decode cX0_add 22 = .ok (.aload_n 0, 1) := by decide +kernel
theorem dX0_add_23 : decode cX0_add 23 = .ok (.aload_n 0, 1) := by decide +kernel
theorem dX0_add_24 : decode cX0_add 24 = .ok (.getfield 9, 3) := by decide +kernel
theorem dX0_add_27 : decode cX0_add 27 = .ok (.iload 4, 2) := by decide +kernel
theorem dX0_add_29 : decode cX0_add 29 = .ok (.iconst 1, 1) := by decide +kernel
theorem dX0_add_30 : decode cX0_add 30 = .ok (.isub, 1) := by decide +kernel
theorem dX0_add_31 : decode cX0_add 31 = .ok (.iaload, 1) := by decide +kernel
theorem dX0_add_32 : decode cX0_add 32 = .ok (.iload_n 1, 1) := by decide +kernel
theorem dX0_add_33 : decode cX0_add 33 = .ok (.invokevirtual 29, 3) := by decide +kernel
theorem dX0_add_36 : decode cX0_add 36 = .ok (.ifCond .eq 42, 3) := by decide +kernel
theorem dX0_add_39 : decode cX0_add 39 = .ok (.aload_n 0, 1) := by decide +kernel
theorem dX0_add_40 : decode cX0_add 40 = .ok (.iload 4, 2) := by decide +kernel
theorem dX0_add_42 : decode cX0_add 42 = .ok (.aload_n 0, 1) := by decide +kernel
theorem dX0_add_43 : decode cX0_add 43 = .ok (.getfield 9, 3) := by decide +kernel
theorem dX0_add_46 : decode cX0_add 46 = .ok (.iload 4, 2) := by decide +kernel
theorem dX0_add_48 : decode cX0_add 48 = .ok (.iconst 1, 1) := by decide +kernel
theorem dX0_add_49 : decode cX0_add 49 = .ok (.isub, 1) := by decide +kernel
theorem dX0_add_50 : decode cX0_add 50 = .ok (.iaload, 1) := by decide +kernel
theorem dX0_add_51 : decode cX0_add 51 = .ok (.aload_n 0, 1) := by decide +kernel
theorem dX0_add_52 : decode cX0_add 52 = .ok (.getfield 15, 3) := by decide +kernel
theorem dX0_add_55 : decode cX0_add 55 = .ok (.iload 4, 2) := by decide +kernel
theorem dX0_add_57 : decode cX0_add 57 = .ok (.iconst 1, 1) := by decide +kernel
theorem dX0_add_58 : decode cX0_add 58 = .ok (.isub, 1) := by decide +kernel
theorem dX0_add_59 : decode cX0_add 59 = .ok (.iaload, 1) := by decide +kernel
theorem dX0_add_60 : decode cX0_add 60 = .ok (.aload_n 0, 1) := by decide +kernel
theorem dX0_add_61 : decode cX0_add 61 = .ok (.getfield 18, 3) := by decide +kernel
theorem dX0_add_64 : decode cX0_add 64 = .ok (.iload 4, 2) := by decide +kernel
theorem dX0_add_66 : decode cX0_add 66 = .ok (.iconst 1, 1) := by decide +kernel
theorem dX0_add_67 : decode cX0_add 67 = .ok (.isub, 1) := by decide +kernel
theorem dX0_add_68 : decode cX0_add 68 = .ok (.iaload, 1) := by decide +kernel
theorem dX0_add_69 : decode cX0_add 69 = .ok (.invokevirtual 33, 3) := by decide +kernel
theorem dX0_add_72 : decode cX0_add 72 = .ok (.iinc 4 (-1), 3) := by decide +kernel
theorem dX0_add_75 : decode cX0_add 75 = .ok (.goto (-58), 3) := by decide +kernel
theorem dX0_add_78 : decode cX0_add 78 = .ok (.aload_n 0, 1) := by decide +kernel
theorem dX0_add_79 : decode cX0_add 79 = .ok (.iload 4, 2) := by decide +kernel
theorem dX0_add_81 : decode cX0_add 81 = .ok (.iload_n 1, 1) := by decide +kernel
theorem dX0_add_82 : decode cX0_add 82 = .ok (.iload_n 2, 1) := by decide +kernel
theorem dX0_add_83 : decode cX0_add 83 = .ok (.iload_n 3, 1) := by decide +kernel
theorem dX0_add_84 : decode cX0_add 84 = .ok (.invokevirtual 33, 3) := by decide +kernel
theorem dX0_add_87 : decode cX0_add 87 = .ok (.aload_n 0, 1) := by decide +kernel
theorem dX0_add_88 : decode cX0_add 88 = .ok (.dup, 1) := by decide +kernel
theorem dX0_add_89 : decode cX0_add 89 = .ok (.getfield 21, 3) := by decide +kernel
theorem dX0_add_92 : decode cX0_add 92 = .ok (.iconst 1, 1) := by decide +kernel
theorem dX0_add_93 : decode cX0_add 93 = .ok (.iadd, 1) := by decide +kernel
theorem dX0_add_94 : decode cX0_add 94 = .ok (.putfield 21, 3) := by decide +kernel
theorem dX0_add_97 : decode cX0_add 97 = .ok (.return_, 1) := by decide +kernel
theorem dX0_isBehind_0 : decode cX0_isBehind 0 = .ok (.aload_n 0, 1) := by decide +kernel
theorem dX0_isBehind_1 : decode cX0_isBehind 1 = .ok (.getfield 25, 3) := by decide +kernel
theorem dX0_isBehind_4 : decode cX0_isBehind 4 = .ok (.ifCond .eq 16, 3) := by decide +kernel
theorem dX0_isBehind_7 : decode cX0_isBehind 7 = .ok (.iload_n 1, 1) := by decide +kernel
theorem dX0_isBehind_8 : decode cX0_isBehind 8 = .ok (.iload_n 2, 1) := by decide +kernel
theorem dX0_isBehind_9 : decode cX0_isBehind 9 = .ok (.if_icmp .ge 7, 3) := by decide +kernel
theorem dX0_isBehind_12 : decode cX0_isBehind 12 = .ok (.iconst 1, 1) := by decide +kernel
theorem dX0_isBehind_13 : decode cX0_isBehind 13 = .ok (.goto 17, 3) := by decide +kernel
theorem dX0_isBehind_16 : decode cX0_isBehind 16 = .ok (.iconst 0, 1) := by decide +kernel
theorem dX0_isBehind_17 : decode cX0_isBehind 17 = .ok (.goto 13, 3) := by decide +kernel
theorem dX0_isBehind_20 : decode cX0_isBehind 20 = .ok (.iload_n 1, 1) := by decide +kernel
theorem dX0_isBehind_21 : decode cX0_isBehind 21 = .ok (.iload_n 2, 1) := by decide +kernel
theorem dX0_isBehind_22 : decode cX0_isBehind 22 = .ok (.if_icmp .le 7, 3) := by decide +kernel
theorem dX0_isBehind_25 : decode cX0_isBehind 25 = .ok (.iconst 1, 1) := by decide +kernel
theorem dX0_isBehind_26 : decode cX0_isBehind 26 = .ok (.goto 4, 3) := by decide +kernel
theorem dX0_isBehind_29 : decode cX0_isBehind 29 = .ok (.iconst 0, 1) := by decide +kernel
theorem dX0_isBehind_30 : decode cX0_isBehind 30 = .ok (.ireturn, 1) := by decide +kernel
theorem dX0_put_0 : decode cX0_put 0 = .ok (.aload_n 0, 1) := by decide +kernel
theorem dX0_put_1 : decode cX0_put 1 = .ok (.getfield 9, 3) := by decide +kernel
theorem dX0_put_4 : decode cX0_put 4 = .ok (.iload_n 1, 1) := by decide +kernel
theorem dX0_put_5 : decode cX0_put 5 = .ok (.iload_n 2, 1) := by decide +kernel
theorem dX0_put_6 : decode cX0_put 6 = .ok (.iastore, 1) := by decide +kernel
theorem dX0_put_7 : decode cX0_put 7 = .ok (.aload_n 0, 1) := by decide +kernel
theorem dX0_put_8 : decode cX0_put 8 = .ok (.getfield 15, 3) := by decide +kernel
theorem dX0_put_11 : decode cX0_put 11 = .ok (.iload_n 1, 1) := by decide +kernel
theorem dX0_put_12 : decode cX0_put 12 = .ok (.iload_n 3, 1) := by decide +kernel
theorem dX0_put_13 : decode cX0_put 13 = .ok (.iastore, 1) := by decide +kernel
theorem dX0_put_14 : decode cX0_put 14 = .ok (.aload_n 0, 1) := by decide +kernel
theorem dX0_put_15 : decode cX0_put 15 = .ok (.getfield 18, 3) := by decide +kernel
theorem dX0_put_18 : decode cX0_put 18 = .ok (.iload_n 1, 1) := by decide +kernel
theorem dX0_put_19 : decode cX0_put 19 = .ok (.iload 4, 2) := by decide +kernel
theorem dX0_put_21 : decode cX0_put 21 = .ok (.iastore, 1) := by decide +kernel
theorem dX0_put_22 : decode cX0_put 22 = .ok (.return_, 1) := by decide +kernel
end
section
theorem dX1_init_0 : decode cX1_init 0 = .ok (.aload_n 0, 1) := by decide +kernel
theorem dX1_init_1 : decode cX1_init 1 = .ok (.invokespecial 3, 3) := by decide +kernel
theorem dX1_init_4 : decode cX1_init 4 = .ok (.aload_n 0, 1) := by decide +kernel
theorem dX1_init_5 : decode cX1_init 5 = .ok (.iconst 0, 1) := by decide +kernel
theorem dX1_init_6 : decode cX1_init 6 = .ok (.putfield 9, 3) := by decide +kernel
theorem dX1_init_9 : decode cX1_init 9 = .ok (.aload_n 0, 1) := by decide +kernel
theorem dX1_init_10 : decode cX1_init 10 = .ok (.ldc 15, 2) := by decide +kernel
theorem dX1_init_12 : decode cX1_init 12 = .ok (.putfield 16, 3) := by decide +kernel
theorem dX1_init_15 : decode cX1_init 15 = .ok (.aload_n 0, 1) := by decide +kernel
theorem dX1_init_16 : decode cX1_init 16 = .ok (.iconst 4, 1) := by decide +kernel
theorem dX1_init_17 : decode cX1_init 17 = .ok (.newarray .int, 2) := by decide +kernel
theorem dX1_init_19 : decode cX1_init 19 = .ok (.putfield 19, 3) := by decide +kernel
theorem dX1_init_22 : decode cX1_init 22 = .ok (.aload_n 0, 1) := by decide +kernel
theorem dX1_init_23 : decode cX1_init 23 = .ok (.bipush 20, 2) := by decide +kernel
theorem dX1_init_25 : decode cX1_init 25 = .ok (.newarray .int, 2) := by decide +kernel
theorem dX1_init_27 : decode cX1_init 27 = .ok (.putfield 23, 3) := by decide +kernel
theorem dX1_init_30 : decode cX1_init 30 = .ok (.aload_n 0, 1) := by decide +kernel
theorem dX1_init_31 : decode cX1_init 31 = .ok (.bipush 80, 2) := by decide +kernel
theorem dX1_init_33 : decode cX1_init 33 = .ok (.newarray .int, 2) := by decide +kernel
theorem dX1_init_35 : decode cX1_init 35 = .ok (.putfield 26, 3) := by decide +kernel
theorem dX1_init_38 : decode cX1_init 38 = .ok (.return_, 1) := by decide +kernel
theorem dX1_begin_0 : decode cX1_begin 0 = .ok (.aload_n 0, 1) := by decide +kernel
theorem dX1_begin_1 : decode cX1_begin 1 = .ok (.iload_n 1, 1) := by decide +kernel
theorem dX1_begin_2 : decode cX1_begin 2 = .ok (.putfield 9, 3) := by decide +kernel
theorem dX1_begin_5 : decode cX1_begin 5 = .ok (.aload_n 0, 1) := by decide +kernel
theorem dX1_begin_6 : decode cX1_begin 6 = .ok (.ldc 15, 2) := by decide +kernel
theorem dX1_begin_8 : decode cX1_begin 8 = .ok (.putfield 16, 3) := by decide +kernel
theorem dX1_begin_11 : decode cX1_begin 11 = .ok (.aload_n 0, 1) := by decide +kernel
theorem dX1_begin_12 : decode cX1_begin 12 = .ok (.invokevirtual 29, 3) := by decide +kernel
theorem dX1_begin_15 : decode cX1_begin 15 = .ok (.return_, 1) := by decide +kernel
theorem dX1_emptyFields_0 : decode cX1_emptyFields 0 = .ok (.iconst 0, 1) := by decide +kernel
theorem dX1_emptyFields_1 : decode cX1_emptyFields 1 = .ok (.istore_n 1, 1) := by decide +kernel
theorem dX1_emptyFields_2 : decode cX1_emptyFields 2 = .ok (.iload_n 1, 1) := by decide +kernel
theorem dX1_emptyFields_3 : decode cX1_emptyFields 3 = .ok (.iconst 4, 1) := by decide +kernel
theorem dX1_emptyFields_4 : decode cX1_emptyFields 4 = .ok (.if_icmp .ge 16, 3) := by decide +kernel
theorem dX1_emptyFields_7 : decode cX1_emptyFields 7 = .ok (.aload_n 0, 1) := by decide +kernel
theorem dX1_emptyFields_8 : decode cX1_emptyFields 8 = .ok (.getfield 19, 3) := by decide +kernel
theorem dX1_emptyFields_11 : decode cX1_emptyFields 11 = .ok (.iload_n 1, 1) := by decide +kernel
theorem dX1_emptyFields_12 : decode cX1_emptyFields 12 = .ok (.iconst 0, 1) := by decide +kernel
theorem dX1_emptyFields_13 : decode cX1_emptyFields 13 = .ok (.iastore, 1) := by decide +kernel
theorem dX1_emptyFields_14 : decode cX1_emptyFields 14 = .ok (.iinc 1 1, 3) := by decide +kernel
theorem dX1_emptyFields_17 : decode cX1_emptyFields 17 = .ok (.goto (-15), 3) := by decide +kernel
theorem dX1_emptyFields_20 : decode cX1_emptyFields 20 = .ok (.return_, 1) := by decide +kernel
theorem dX1_copyRecord_0 : decode cX1_copyRecord 0 = .ok (.aload_n 0, 1) := by decide +kernel
theorem dX1_copyRecord_1 : decode cX1_copyRecord 1 = .ok (.aload_n 1, 1) := by decide +kernel
theorem dX1_copyRecord_2 : decode cX1_copyRecord 2 = .ok (.getfield 9, 3) := by decide +kernel
theorem dX1_copyRecord_5 : decode cX1_copyRecord 5 = .ok (.putfield 9, 3) := by decide +kernel
theorem dX1_copyRecord_8 : decode cX1_copyRecord 8 = .ok (.aload_n 0, 1) := by decide +kernel
theorem dX1_copyRecord_9 : decode cX1_copyRecord 9 = .ok (.aload_n 1, 1) := by decide +kernel
theorem dX1_copyRecord_10 : decode cX1_copyRecord 10 = .ok (.getfield 16, 3) := by decide +kernel
theorem dX1_copyRecord_13 : decode cX1_copyRecord 13 = .ok (.putfield 16, 3) := by decide +kernel
theorem dX1_copyRecord_16 : decode cX1_copyRecord 16 = .ok (.aload_n 0, 1) := by decide +kernel
theorem dX1_copyRecord_17 : decode cX1_copyRecord 17 = .ok (.aload_n 1, 1) := by decide +kernel
theorem dX1_copyRecord_18 : decode cX1_copyRecord 18 = .ok (.invokevirtual 32, 3) := by decide +kernel
theorem dX1_copyRecord_21 : decode cX1_copyRecord 21 = .ok (.return_, 1) := by decide +kernel
theorem dX1_copyFields_0 : decode cX1_copyFields 0 = .ok (.aload_n 1, 1) := by decide +kernel
theorem dX1_copyFields_1 : decode cX1_copyFields 1 = .ok (.getfield 19, 3) := by decide +kernel
theorem dX1_copyFields_4 : decode cX1_copyFields 4 = .ok (.iconst 0, 1) := by decide +kernel
theorem dX1_copyFields_5 : decode cX1_copyFields 5 = .ok (.aload_n 0, 1) := by decide +kernel
theorem dX1_copyFields_6 : decode cX1_copyFields 6 = .ok (.getfield 19, 3) := by decide +kernel
theorem dX1_copyFields_9 : decode cX1_copyFields 9 = .ok (.iconst 0, 1) := by decide +kernel
theorem dX1_copyFields_10 : decode cX1_copyFields 10 = .ok (.iconst 4, 1) := by decide +kernel
theorem dX1_copyFields_11 : decode cX1_copyFields 11 = .ok (.invokestatic 36, 3) := by decide +kernel
theorem dX1_copyFields_14 : decode cX1_copyFields 14 = .ok (.aload_n 1, 1) := by decide +kernel
theorem dX1_copyFields_15 : decode cX1_copyFields 15 = .ok (.getfield 23, 3) := by decide +kernel
theorem dX1_copyFields_18 : decode cX1_copyFields 18 = .ok (.iconst 0, 1) := by decide +kernel
theorem dX1_copyFields_19 : decode cX1_copyFields 19 = .ok (.aload_n 0, 1) := by decide +kernel
theorem dX1_copyFields_20 : decode cX1_copyFields 20 = .ok (.getfield 23, 3) := by decide +kernel
theorem dX1_copyFields_23 : decode cX1_copyFields 23 = .ok (.iconst 0, 1) := by decide +kernel
theorem dX1_copyFields_24 : decode cX1_copyFields 24 = .ok (.bipush 20, 2) := by decide +kernel
theorem dX1_copyFields_26 : decode cX1_copyFields 26 = .ok (.invokestatic 36, 3) := by decide +kernel
theorem dX1_copyFields_29 : decode cX1_copyFields 29 = .ok (.aload_n 1, 1) := by decide +kernel
theorem dX1_copyFields_30 : decode cX1_copyFields 30 = .ok (.getfield 26, 3) := by decide +kernel
theorem dX1_copyFields_33 : decode cX1_copyFields 33 = .ok (.iconst 0, 1) := by decide +kernel
theorem dX1_copyFields_34 : decode cX1_copyFields 34 = .ok (.aload_n 0, 1) := by decide +kernel
theorem dX1_copyFields_35 : decode cX1_copyFields 35 = .ok (.getfield 26, 3) := by decide +kernel
theorem dX1_copyFields_38 : decode cX1_copyFields 38 = .ok (.iconst 0, 1) := by decide +kernel
theorem dX1_copyFields_39 : decode cX1_copyFields 39 = .ok (.bipush 80, 2) := by decide +kernel
theorem dX1_copyFields_41 : decode cX1_copyFields 41 = .ok (.invokestatic 36, 3) := by decide +kernel
theorem dX1_copyFields_44 : decode cX1_copyFields 44 = .ok (.return_, 1) := by decide +kernel
theorem dX1_isOpenTo_0 : decode cX1_isOpenTo 0 = .ok (.aload_n 0, 1) := by decide +kernel
theorem dX1_isOpenTo_1 : decode cX1_isOpenTo 1 = .ok (.getfield 16, 3) := by decide +kernel
theorem dX1_isOpenTo_4 : decode cX1_isOpenTo 4 = .ok (.ldc 15, 2) := by decide +kernel
theorem dX1_isOpenTo_6 : decode cX1_isOpenTo 6 = .ok (.if_icmp .eq 11, 3) := by decide +kernel
theorem dX1_isOpenTo_9 : decode cX1_isOpenTo 9 = .ok (.aload_n 0, 1) := by decide +kernel
theorem dX1_isOpenTo_10 : decode cX1_isOpenTo 10 = .ok (.getfield 16, 3) := by decide +kernel
theorem dX1_isOpenTo_13 : decode cX1_isOpenTo 13 = .ok (.iload_n 1, 1) := by decide +kernel
theorem dX1_isOpenTo_14 : decode cX1_isOpenTo 14 = .ok (.if_icmp .ne 7, 3) := by decide +kernel
theorem dX1_isOpenTo_17 : decode cX1_isOpenTo 17 = .ok (.iconst 1, 1) := by decide +kernel
theorem dX1_isOpenTo_18 : decode cX1_isOpenTo 18 = .ok (.goto 4, 3) := by decide +kernel
theorem dX1_isOpenTo_21 : decode cX1_isOpenTo 21 = .ok (.iconst 0, 1) := by decide +kernel
theorem dX1_isOpenTo_22 : decode cX1_isOpenTo 22 = .ok (.ireturn, 1) := by decide +kernel
theorem dX1_hasValue_0 : decode cX1_hasValue 0 = .ok (.iload_n 1, 1) := by decide +kernel
theorem dX1_hasValue_1 : decode cX1_hasValue 1 = .ok (.iconst 4, 1) := by decide +kernel
theorem dX1_hasValue_2 : decode cX1_hasValue 2 = .ok (.invokestatic 42, 3) := by decide +kernel
theorem dX1_hasValue_5 : decode cX1_hasValue 5 = .ok (.ifCond .eq 20, 3) := by decide +kernel
theorem dX1_hasValue_8 : decode cX1_hasValue 8 = .ok (.iload_n 2, 1) := by decide +kernel
theorem dX1_hasValue_9 : decode cX1_hasValue 9 = .ok (.aload_n 0, 1) := by decide +kernel
theorem dX1_hasValue_10 : decode cX1_hasValue 10 = .ok (.getfield 19, 3) := by decide +kernel
theorem dX1_hasValue_13 : decode cX1_hasValue 13 = .ok (.iload_n 1, 1) := by decide +kernel
theorem dX1_hasValue_14 : decode cX1_hasValue 14 = .ok (.iaload, 1) := by decide +kernel
theorem dX1_hasValue_15 : decode cX1_hasValue 15 = .ok (.invokestatic 42, 3) := by decide +kernel
theorem dX1_hasValue_18 : decode cX1_hasValue 18 = .ok (.ifCond .eq 7, 3) := by decide +kernel
theorem dX1_hasValue_21 : decode cX1_hasValue 21 = .ok (.iconst 1, 1) := by decide +kernel
theorem dX1_hasValue_22 : decode cX1_hasValue 22 = .ok (.goto 4, 3) := by decide +kernel
theorem dX1_hasValue_25 : decode cX1_hasValue 25 = .ok (.iconst 0, 1) := by decide +kernel
theorem dX1_hasValue_26 : decode cX1_hasValue 26 = .ok (.ireturn, 1) := by decide +kernel
theorem dX1_hasSub_0 : decode cX1_hasSub 0 = .ok (.aload_n 0, 1) := by decide +kernel
theorem dX1_hasSub_1 : decode cX1_hasSub 1 = .ok (.iload_n 1, 1) := by decide +kernel
theorem dX1_hasSub_2 : decode cX1_hasSub 2 = .ok (.iload_n 2, 1) := by decide +kernel
theorem dX1_hasSub_3 : decode cX1_hasSub 3 = .ok (.invokevirtual 46, 3) := by decide +kernel
theorem dX1_hasSub_6 : decode cX1_hasSub 6 = .ok (.ifCond .eq 20, 3) := by decide +kernel
theorem dX1_hasSub_9 : decode cX1_hasSub 9 = .ok (.iload_n 3, 1) := by decide +kernel
theorem dX1_hasSub_10 : decode cX1_hasSub 10 = .ok (.aload_n 0, 1) := by decide +kernel
theorem dX1_hasSub_11 : decode cX1_hasSub 11 = .ok (.iload_n 1, 1) := by decide +kernel
theorem dX1_hasSub_12 : decode cX1_hasSub 12 = .ok (.iload_n 2, 1) := by decide +kernel
theorem dX1_hasSub_13 : decode cX1_hasSub 13 = .ok (.invokevirtual 49, 3) := by decide +kernel
theorem dX1_hasSub_16 : decode cX1_hasSub 16 = .ok (.invokestatic 42, 3) := by decide +kernel
theorem dX1_hasSub_19 : decode cX1_hasSub 19 = .ok (.ifCond .eq 7, 3) := by decide +kernel
theorem dX1_hasSub_22 : decode cX1_hasSub 22 = .ok (.iconst 1, 1) := by decide +kernel
theorem dX1_hasSub_23 : decode cX1_hasSub 23 = .ok (.goto 4, 3) := by decide +kernel
theorem dX1_hasSub_26 : decode cX1_hasSub 26 = .ok (.iconst 0, 1) := by decide +kernel
theorem dX1_hasSub_27 : decode cX1_hasSub 27 = .ok (.ireturn, 1) := by decide +kernel
theorem dX1_hasPart_0 : decode cX1_hasPart 0 = .ok (.iload_n 3, 1) := by decide +kernel
theorem dX1_hasPart_1 : decode cX1_hasPart 1 = .ok (.iconst (-1), 1) := by decide +kernel
theorem dX1_hasPart_2 : decode cX1_hasPart 2 = .ok (.if_icmp .ne 10, 3) := by decide +kernel
theorem dX1_hasPart_5 : decode cX1_hasPart 5 = .ok (.aload_n 0, 1) := by decide +kernel
theorem dX1_hasPart_6 : decode cX1_hasPart 6 = .ok (.iload_n 1, 1) := by decide +kernel
theorem dX1_hasPart_7 : decode cX1_hasPart 7 = .ok (.iload_n 2, 1) := by decide +kernel
theorem dX1_hasPart_8 : decode cX1_hasPart 8 = .ok (.invokevirtual 46, 3) := by decide +kernel
theorem dX1_hasPart_11 : decode cX1_hasPart 11 = .ok (.ireturn, 1) := by decide +kernel
theorem dX1_hasPart_12 : decode cX1_hasPart 12 = .ok (.aload_n 0, 1) := by decide +kernel
theorem dX1_hasPart_13 : decode cX1_hasPart 13 = .ok (.iload_n 1, 1) := by decide +kernel
theorem dX1_hasPart_14 : decode cX1_hasPart 14 = .ok (.iload_n 2, 1) := by decide +kernel
theorem dX1_hasPart_15 : decode cX1_hasPart 15 = .ok (.iload_n 3, 1) := by decide +kernel
theorem dX1_hasPart_16 : decode cX1_hasPart 16 = .ok (.invokevirtual 53, 3) := by decide +kernel
theorem dX1_hasPart_19 : decode cX1_hasPart 19 = .ok (.ireturn, 1) := by decide +kernel
theorem dX1_hasRoomPlace_0 : decode cX1_hasRoomPlace 0 = .ok (.iload_n 3, 1) := by decide +kernel
theorem dX1_hasRoomPlace_1 : decode cX1_hasRoomPlace 1 = .ok (.iconst (-1), 1) := by decide +kernel
theorem dX1_hasRoomPlace_2 : decode cX1_hasRoomPlace 2 = .ok (.if_icmp .ne 32, 3) := by decide +kernel
theorem dX1_hasRoomPlace_5 : decode cX1_hasRoomPlace 5 = .ok (.iload_n 1, 1) := by decide +kernel
theorem dX1_hasRoomPlace_6 : decode cX1_hasRoomPlace 6 = .ok (.iconst 4, 1) := by decide +kernel
theorem dX1_hasRoomPlace_7 : decode cX1_hasRoomPlace 7 = .ok (.invokestatic 42, 3) := by decide +kernel
theorem dX1_hasRoomPlace_10 : decode cX1_hasRoomPlace 10 = .ok (.ifCond .eq 22, 3) := by decide +kernel
theorem dX1_hasRoomPlace_13 : decode cX1_hasRoomPlace 13 = .ok (.iload_n 2, 1) := by decide +kernel
theorem dX1_hasRoomPlace_14 : decode cX1_hasRoomPlace 14 = .ok (.aload_n 0, 1) := by decide +kernel
theorem dX1_hasRoomPlace_15 : decode cX1_hasRoomPlace 15 = .ok (.getfield 19, 3) := by decide +kernel
theorem dX1_hasRoomPlace_18 : decode cX1_hasRoomPlace 18 = .ok (.iload_n 1, 1) := by decide +kernel
theorem dX1_hasRoomPlace_19 : decode cX1_hasRoomPlace 19 = .ok (.iaload, 1) := by decide +kernel
theorem dX1_hasRoomPlace_20 : decode cX1_hasRoomPlace 20 = .ok (.iconst 1, 1) := by decide +kernel
theorem dX1_hasRoomPlace_21 : decode cX1_hasRoomPlace 21 = .ok (.iadd, 1) := by decide +kernel
theorem dX1_hasRoomPlace_22 : decode cX1_hasRoomPlace 22 = .ok (.invokestatic 42, 3) := by decide +kernel
theorem dX1_hasRoomPlace_25 : decode cX1_hasRoomPlace 25 = .ok (.ifCond .eq 7, 3) := by decide +kernel
theorem dX1_hasRoomPlace_28 : decode cX1_hasRoomPlace 28 = .ok (.iconst 1, 1) := by decide +kernel
theorem dX1_hasRoomPlace_29 : decode cX1_hasRoomPlace 29 = .ok (.goto 4, 3) := by decide +kernel
theorem dX1_hasRoomPlace_32 : decode cX1_hasRoomPlace 32 = .ok (.iconst 0, 1) := by decide +kernel
theorem dX1_hasRoomPlace_33 : decode cX1_hasRoomPlace 33 = .ok (.ireturn, 1) := by decide +kernel
theorem dX1_hasRoomPlace_34 : decode cX1_hasRoomPlace 34 = .ok (.aload_n 0, 1) := by decide +kernel
theorem dX1_hasRoomPlace_35 : decode cX1_hasRoomPlace 35 = .ok (.iload_n 1, 1) := by decide +kernel
theorem dX1_hasRoomPlace_36 : decode cX1_hasRoomPlace 36 = .ok (.iload_n 2, 1) := by decide +kernel
theorem dX1_hasRoomPlace_37 : decode cX1_hasRoomPlace 37 = .ok (.invokevirtual 46, 3) := by decide +kernel
theorem dX1_hasRoomPlace_40 : decode cX1_hasRoomPlace 40 = .ok (.ifCond .eq 22, 3) := by decide +kernel
theorem dX1_hasRoomPlace_43 : decode cX1_hasRoomPlace 43 = .ok (.iload_n 3, 1) := by decide +kernel
theorem dX1_hasRoomPlace_44 : decode cX1_hasRoomPlace 44 = .ok (.aload_n 0, 1) := by decide +kernel
theorem dX1_hasRoomPlace_45 : decode cX1_hasRoomPlace 45 = .ok (.iload_n 1, 1) := by decide +kernel
theorem dX1_hasRoomPlace_46 : decode cX1_hasRoomPlace 46 = .ok (.iload_n 2, 1) := by decide +kernel
theorem dX1_hasRoomPlace_47 : decode cX1_hasRoomPlace 47 = .ok (.invokevirtual 49, 3) := by decide +kernel
theorem dX1_hasRoomPlace_50 : decode cX1_hasRoomPlace 50 = .ok (.iconst 1, 1) := by decide +kernel
theorem dX1_hasRoomPlace_51 : decode cX1_hasRoomPlace 51 = .ok (.iadd, 1) := by decide +kernel
theorem dX1_hasRoomPlace_52 : decode cX1_hasRoomPlace 52 = .ok (.invokestatic 42, 3) := by decide +kernel
theorem dX1_hasRoomPlace_55 : decode cX1_hasRoomPlace 55 = .ok (.ifCond .eq 7, 3) := by decide +kernel
theorem dX1_hasRoomPlace_58 : decode cX1_hasRoomPlace 58 = .ok (.iconst 1, 1) := by decide +kernel
theorem dX1_hasRoomPlace_59 : decode cX1_hasRoomPlace 59 = .ok (.goto 4, 3) := by decide +kernel
theorem dX1_hasRoomPlace_62 : decode cX1_hasRoomPlace 62 = .ok (.iconst 0, 1) := by decide +kernel
theorem dX1_hasRoomPlace_63 : decode cX1_hasRoomPlace 63 = .ok (.ireturn, 1) := by decide +kernel
theorem dX1_valueCount_0 : decode cX1_valueCount 0 = .ok (.aload_n 0, 1) := by decide +kernel
theorem dX1_valueCount_1 : decode cX1_valueCount 1 = .ok (.getfield 19, 3) := by decide +kernel
theorem dX1_valueCount_4 : decode cX1_valueCount 4 = .ok (.iload_n 1, 1) := by decide +kernel
theorem dX1_valueCount_5 : decode cX1_valueCount 5 = .ok (.iaload, 1) := by decide +kernel
theorem dX1_valueCount_6 : decode cX1_valueCount 6 = .ok (.ireturn, 1) := by decide +kernel
theorem dX1_subCount_0 : decode cX1_subCount 0 = .ok (.aload_n 0, 1) := by decide +kernel
theorem dX1_subCount_1 : decode cX1_subCount 1 = .ok (.getfield 23, 3) := by decide +kernel
theorem dX1_subCount_4 : decode cX1_subCount 4 = .ok (.iload_n 1, 1) := by decide +kernel
theorem dX1_subCount_5 : decode cX1_subCount 5 = .ok (.iconst 5, 1) := by decide +kernel
theorem dX1_subCount_6 : decode cX1_subCount 6 = .ok (.imul, 1) := by decide +kernel
theorem dX1_subCount_7 : decode cX1_subCount 7 = .ok (.iload_n 2, 1) := by decide +kernel
theorem dX1_subCount_8 : decode cX1_subCount 8 = .ok (.iadd, 1) := by decide +kernel
theorem dX1_subCount_9 : decode cX1_subCount 9 = .ok (.iaload, 1) := by decide +kernel
theorem dX1_subCount_10 : decode cX1_subCount 10 = .ok (.ireturn, 1) := by decide +kernel
theorem dX1_allSubCount_0 : decode cX1_allSubCount 0 = .ok (.iconst 0, 1) := by decide +kernel
theorem dX1_allSubCount_1 : decode cX1_allSubCount 1 = .ok (.istore_n 1, 1) := by decide +kernel
theorem dX1_allSubCount_2 : decode cX1_allSubCount 2 = .ok (.iconst 0, 1) := by decide +kernel
theorem dX1_allSubCount_3 : decode cX1_allSubCount 3 = .ok (.istore_n 2, 1) := by decide +kernel
theorem dX1_allSubCount_4 : decode cX1_allSubCount 4 = .ok (.iload_n 2, 1) := by decide +kernel
theorem dX1_allSubCount_5 : decode cX1_allSubCount 5 = .ok (.iconst 4, 1) := by decide +kernel
theorem dX1_allSubCount_6 : decode cX1_allSubCount 6 = .ok (.if_icmp .ge 36, 3) := by decide +kernel
theorem dX1_allSubCount_9 : decode cX1_allSubCount 9 = .ok (.iconst 0, 1) := by decide +kernel
theorem dX1_allSubCount_10 : decode cX1_allSubCount 10 = .ok (.istore_n 3, 1) := by decide +kernel
theorem dX1_allSubCount_11 : decode cX1_allSubCount 11 = .ok (.iload_n 3, 1) := by decide +kernel
theorem dX1_allSubCount_12 : decode cX1_allSubCount 12 = .ok (.aload_n 0, 1) := by decide +kernel
theorem dX1_allSubCount_13 : decode cX1_allSubCount 13 = .ok (.getfield 19, 3) := by decide +kernel
theorem dX1_allSubCount_16 : decode cX1_allSubCount 16 = .ok (.iload_n 2, 1) := by decide +kernel
theorem dX1_allSubCount_17 : decode cX1_allSubCount 17 = .ok (.iaload, 1) := by decide +kernel
theorem dX1_allSubCount_18 : decode cX1_allSubCount 18 = .ok (.if_icmp .ge 18, 3) := by decide +kernel
theorem dX1_allSubCount_21 : decode cX1_allSubCount 21 = .ok (.iload_n 1, 1) := by decide +kernel
theorem dX1_allSubCount_22 : decode cX1_allSubCount 22 = .ok (.aload_n 0, 1) := by decide +kernel
theorem dX1_allSubCount_23 : decode cX1_allSubCount 23 = .ok (.iload_n 2, 1) := by decide +kernel
theorem dX1_allSubCount_24 : decode cX1_allSubCount 24 = .ok (.iload_n 3, 1) := by decide +kernel
theorem dX1_allSubCount_25 : decode cX1_allSubCount 25 = .ok (.invokevirtual 49, 3) := by decide +kernel
theorem dX1_allSubCount_28 : decode cX1_allSubCount 28 = .ok (.iadd, 1) := by decide +kernel
theorem dX1_allSubCount_29 : decode cX1_allSubCount 29 = .ok (.istore_n 1, 1) := by decide +kernel
theorem dX1_allSubCount_30 : decode cX1_allSubCount 30 = .ok (.iinc 3 1, 3) := by decide +kernel
theorem dX1_allSubCount_33 : decode cX1_allSubCount 33 = .ok (.goto (-22), 3) := by decide +kernel
theorem dX1_allSubCount_36 : decode cX1_allSubCount 36 = .ok (.iinc 2 1, 3) := by decide +kernel
theorem dX1_allSubCount_39 : decode cX1_allSubCount 39 = .ok (.goto (-35), 3) := by decide +kernel
theorem dX1_allSubCount_42 : decode cX1_allSubCount 42 = .ok (.iload_n 1, 1) := by decide +kernel
theorem dX1_allSubCount_43 : decode cX1_allSubCount 43 = .ok (.ireturn, 1) := by decide +kernel
theorem dX1_numberOf_0 : decode cX1_numberOf 0 = .ok (.aload_n 0, 1) := by decide +kernel
theorem dX1_numberOf_1 : decode cX1_numberOf 1 = .ok (.getfield 26, 3) := by decide +kernel
theorem dX1_numberOf_4 : decode cX1_numberOf 4 = .ok (.iload_n 1, 1) := by decide +kernel
theorem dX1_numberOf_5 : decode cX1_numberOf 5 = .ok (.bipush 20, 2) := by decide +kernel
theorem dX1_numberOf_7 : decode cX1_numberOf 7 = .ok (.imul, 1) := by decide +kernel
theorem dX1_numberOf_8 : decode cX1_numberOf 8 = .ok (.iload_n 2, 1) := by decide +kernel
theorem dX1_numberOf_9 : decode cX1_numberOf 9 = .ok (.iconst 4, 1) := by decide +kernel
theorem dX1_numberOf_10 : decode cX1_numberOf 10 = .ok (.imul, 1) := by decide +kernel
theorem dX1_numberOf_11 : decode cX1_numberOf 11 = .ok (.iadd, 1) := by decide +kernel
theorem dX1_numberOf_12 : decode cX1_numberOf 12 = .ok (.iload_n 3, 1) := by decide +kernel
theorem dX1_numberOf_13 : decode cX1_numberOf 13 = .ok (.iadd, 1) := by decide +kernel
theorem dX1_numberOf_14 : decode cX1_numberOf 14 = .ok (.iaload, 1) := by decide +kernel
theorem dX1_numberOf_15 : decode cX1_numberOf 15 = .ok (.ireturn, 1) := by decide +kernel
theorem dX1_setNumber_0 : decode cX1_setNumber 0 = .ok (.aload_n 0, 1) := by decide +kernel
theorem dX1_setNumber_1 : decode cX1_setNumber 1 = .ok (.getfield 26, 3) := by decide +kernel
theorem dX1_setNumber_4 : decode cX1_setNumber 4 = .ok (.iload_n 1, 1) := by decide +kernel
theorem dX1_setNumber_5 : decode cX1_setNumber 5 = .ok (.bipush 20, 2) := by decide +kernel
theorem dX1_setNumber_7 : decode cX1_setNumber 7 = .ok (.imul, 1) := by decide +kernel
theorem dX1_setNumber_8 : decode cX1_setNumber 8 = .ok (.iload_n 2, 1) := by decide +kernel
theorem dX1_setNumber_9 : decode cX1_setNumber 9 = .ok (.iconst 4, 1) := by decide +kernel
theorem dX1_setNumber_10 : decode cX1_setNumber 10 = .ok (.imul, 1) := by decide +kernel
theorem dX1_setNumber_11 : decode cX1_setNumber 11 = .ok (.iadd, 1) := by decide +kernel
theorem dX1_setNumber_12 : decode cX1_setNumber 12 = .ok (.iload_n 3, 1) := by decide +kernel
theorem dX1_setNumber_13 : decode cX1_setNumber 13 = .ok (.iadd, 1) := by decide +kernel
theorem dX1_setNumber_14 : decode cX1_setNumber 14 = .ok (.iload 4, 2) := by decide +kernel
theorem dX1_setNumber_16 : decode cX1_setNumber 16 = .ok (.iastore, 1) := by decide +kernel
theorem dX1_setNumber_17 : decode cX1_setNumber 17 = .ok (.return_, 1) := by decide +kernel
theorem dX1_addValue_0 : decode cX1_addValue 0 = .ok (.aload_n 0, 1) := by decide +kernel
theorem dX1_addValue_1 : decode cX1_addValue 1 = .ok (.getfield 19, 3) := by decide +kernel
theorem dX1_addValue_4 : decode cX1_addValue 4 = .ok (.iload_n 1, 1) := by decide +kernel
theorem dX1_addValue_5 : decode cX1_addValue 5 = .ok (.iaload, 1) := by decide +kernel
theorem dX1_addValue_6 : decode cX1_addValue 6 = .ok (.iconst 5, 1) := by decide +kernel
theorem dX1_addValue_7 : decode cX1_addValue 7 = .ok (.if_icmp .lt 4, 3) := by decide +kernel
theorem dX1_addValue_10 : decode cX1_addValue 10 = .ok (.return_, 1) := by decide +kernel
theorem dX1_addValue_11 : decode cX1_addValue 11 = .ok (.aload_n 0, 1) := by decide +kernel
theorem dX1_addValue_12 : decode cX1_addValue 12 = .ok (.getfield 19, 3) := by decide +kernel
theorem dX1_addValue_15 : decode cX1_addValue 15 = .ok (.iload_n 1, 1) := by decide +kernel
theorem dX1_addValue_16 : decode cX1_addValue 16 = .ok (.iaload, 1) := by decide +kernel
theorem dX1_addValue_17 : decode cX1_addValue 17 = .ok (.istore 4, 2) := by decide +kernel
theorem dX1_addValue_19 : decode cX1_addValue 19 = .ok (.iload 4, 2) := by decide +kernel
theorem dX1_addValue_21 : decode cX1_addValue 21 = .ok (.iload_n 2, 1) := by decide +kernel
theorem dX1_addValue_22 : decode cX1_addValue 22 = .ok (.if_icmp .le 20, 3) := by decide +kernel
theorem dX1_addValue_25 : decode cX1_addValue 25 = .ok (.aload_n 0, 1) := by decide +kernel
theorem dX1_addValue_26 : decode cX1_addValue 26 = .ok (.iload_n 1, 1) := by decide +kernel
theorem dX1_addValue_27 : decode cX1_addValue 27 = .ok (.iload 4, 2) := by decide +kernel
theorem dX1_addValue_29 : decode cX1_addValue 29 = .ok (.iconst 1, 1) := by decide +kernel
theorem dX1_addValue_30 : decode cX1_addValue 30 = .ok (.isub, 1) := by decide +kernel
theorem dX1_addValue_31 : decode cX1_addValue 31 = .ok (.iload 4, 2) := by decide +kernel
theorem dX1_addValue_33 : decode cX1_addValue 33 = .ok (.invokevirtual 57, 3) := by decide +kernel
theorem dX1_addValue_36 : decode cX1_addValue 36 = .ok (.iinc 4 (-1), 3) := by decide +kernel
theorem dX1_addValue_39 : decode cX1_addValue 39 = .ok (.goto (-20), 3) := by decide +kernel
theorem dX1_addValue_42 : decode cX1_addValue 42 = .ok (.aload_n 0, 1) := by decide +kernel
theorem dX1_addValue_43 : decode cX1_addValue 43 = .ok (.getfield 19, 3) := by decide +kernel
theorem dX1_addValue_46 : decode cX1_addValue 46 = .ok (.iload_n 1, 1) := by decide +kernel
theorem dX1_addValue_47 : decode cX1_addValue 47 = .ok (.dup2, 1) := by decide +kernel
theorem dX1_addValue_48 : decode cX1_addValue 48 = .ok (.iaload, 1) := by decide +kernel
theorem dX1_addValue_49 : decode cX1_addValue 49 = .ok (.iconst 1, 1) := by decide +kernel
theorem dX1_addValue_50 : decode cX1_addValue 50 = .ok (.iadd, 1) := by decide +kernel
theorem dX1_addValue_51 : decode cX1_addValue 51 = .ok (.iastore, 1) := by decide +kernel
theorem dX1_addValue_52 : decode cX1_addValue 52 = .ok (.aload_n 0, 1) := by decide +kernel
theorem dX1_addValue_53 : decode cX1_addValue 53 = .ok (.getfield 23, 3) := by decide +kernel
theorem dX1_addValue_56 : decode cX1_addValue 56 = .ok (.iload_n 1, 1) := by decide +kernel
theorem dX1_addValue_57 : decode cX1_addValue 57 = .ok (.iconst 5, 1) := by decide +kernel
theorem dX1_addValue_58 : decode cX1_addValue 58 = .ok (.imul, 1) := by decide +kernel
theorem dX1_addValue_59 : decode cX1_addValue 59 = .ok (.iload_n 2, 1) := by decide +kernel
theorem dX1_addValue_60 : decode cX1_addValue 60 = .ok (.iadd, 1) := by decide +kernel
theorem dX1_addValue_61 : decode cX1_addValue 61 = .ok (.iconst 1, 1) := by decide +kernel
theorem dX1_addValue_62 : decode cX1_addValue 62 = .ok (.iastore, 1) := by decide +kernel
theorem dX1_addValue_63 : decode cX1_addValue 63 = .ok (.aload_n 0, 1) := by decide +kernel
theorem dX1_addValue_64 : decode cX1_addValue 64 = .ok (.iload_n 1, 1) := by decide +kernel
theorem dX1_addValue_65 : decode cX1_addValue 65 = .ok (.iload_n 2, 1) := by decide +kernel
theorem dX1_addValue_66 : decode cX1_addValue 66 = .ok (.iconst 0, 1) := by decide +kernel
theorem dX1_addValue_67 : decode cX1_addValue 67 = .ok (.iload_n 3, 1) := by decide +kernel
theorem dX1_addValue_68 : decode cX1_addValue 68 = .ok (.invokevirtual 61, 3) := by decide +kernel
theorem dX1_addValue_71 : decode cX1_addValue 71 = .ok (.return_, 1) := by decide +kernel
theorem dX1_addSub_0 : decode cX1_addSub 0 = .ok (.aload_n 0, 1) := by decide +kernel
theorem dX1_addSub_1 : decode cX1_addSub 1 = .ok (.iload_n 1, 1) := by decide +kernel
theorem dX1_addSub_2 : decode cX1_addSub 2 = .ok (.iload_n 2, 1) := by decide +kernel
theorem dX1_addSub_3 : decode cX1_addSub 3 = .ok (.invokevirtual 49, 3) := by decide +kernel
theorem dX1_addSub_6 : decode cX1_addSub 6 = .ok (.istore 5, 2) := by decide +kernel
theorem dX1_addSub_8 : decode cX1_addSub 8 = .ok (.iload 5, 2) := by decide +kernel
theorem dX1_addSub_10 : decode cX1_addSub 10 = .ok (.iconst 4, 1) := by decide +kernel
theorem dX1_addSub_11 : decode cX1_addSub 11 = .ok (.if_icmp .lt 4, 3) := by decide +kernel
theorem dX1_addSub_14 : decode cX1_addSub 14 = .ok (.return_, 1) := by decide +kernel
theorem dX1_addSub_15 : decode cX1_addSub 15 = .ok (.iload 5, 2) := by decide +kernel
theorem dX1_addSub_17 : decode cX1_addSub 17 = .ok (.istore 6, 2) := by decide +kernel
theorem dX1_addSub_19 : decode cX1_addSub 19 = .ok (.iload 6, 2) := by decide +kernel
theorem dX1_addSub_21 : decode cX1_addSub 21 = .ok (.iload_n 3, 1) := by decide +kernel
theorem dX1_addSub_22 : decode cX1_addSub 22 = .ok (.if_icmp .le 27, 3) := by decide +kernel
theorem dX1_addSub_25 : decode cX1_addSub 25 = .ok (.aload_n 0, 1) := by decide +kernel
theorem dX1_addSub_26 : decode cX1_addSub 26 = .ok (.iload_n 1, 1) := by decide +kernel
theorem dX1_addSub_27 : decode cX1_addSub 27 = .ok (.iload_n 2, 1) := by decide +kernel
theorem dX1_addSub_28 : decode cX1_addSub 28 = .ok (.iload 6, 2) := by decide +kernel
theorem dX1_addSub_30 : decode cX1_addSub 30 = .ok (.aload_n 0, 1) := by decide +kernel
theorem dX1_addSub_31 : decode cX1_addSub 31 = .ok (.iload_n 1, 1) := by decide +kernel
theorem dX1_addSub_32 : decode cX1_addSub 32 = .ok (.iload_n 2, 1) := by decide +kernel
theorem dX1_addSub_33 : decode cX1_addSub 33 = .ok (.iload 6, 2) := by decide +kernel
theorem dX1_addSub_35 : decode cX1_addSub 35 = .ok (.iconst 1, 1) := by decide +kernel
theorem dX1_addSub_36 : decode cX1_addSub 36 = .ok (.isub, 1) := by decide +kernel
theorem dX1_addSub_37 : decode cX1_addSub 37 = .ok (.invokevirtual 65, 3) := by decide +kernel
theorem dX1_addSub_40 : decode cX1_addSub 40 = .ok (.invokevirtual 61, 3) := by decide +kernel
theorem dX1_addSub_43 : decode cX1_addSub 43 = .ok (.iinc 6 (-1), 3) := by decide +kernel
theorem dX1_addSub_46 : decode cX1_addSub 46 = .ok (.goto (-27), 3) := by decide +kernel
theorem dX1_addSub_49 : decode cX1_addSub 49 = .ok (.aload_n 0, 1) := by decide +kernel
theorem dX1_addSub_50 : decode cX1_addSub 50 = .ok (.getfield 23, 3) := by decide +kernel
theorem dX1_addSub_53 : decode cX1_addSub 53 = .ok (.iload_n 1, 1) := by decide +kernel
theorem dX1_addSub_54 : decode cX1_addSub 54 = .ok (.iconst 5, 1) := by decide +kernel
theorem dX1_addSub_55 : decode cX1_addSub 55 = .ok (.imul, 1) := by decide +kernel
theorem dX1_addSub_56 : decode cX1_addSub 56 = .ok (.iload_n 2, 1) := by decide +kernel
theorem dX1_addSub_57 : decode cX1_addSub 57 = .ok (.iadd, 1) := by decide +kernel
theorem dX1_addSub_58 : decode cX1_addSub 58 = .ok (.iload 5, 2) := by decide +kernel
theorem dX1_addSub_60 : decode cX1_addSub 60 = .ok (.iconst 1, 1) := by decide +kernel
theorem dX1_addSub_61 : decode cX1_addSub 61 = .ok (.iadd, 1) := by decide +kernel
theorem dX1_addSub_62 : decode cX1_addSub 62 = .ok (.iastore, 1) := by decide +kernel
theorem dX1_addSub_63 : decode cX1_addSub 63 = .ok (.aload_n 0, 1) := by decide +kernel
theorem dX1_addSub_64 : decode cX1_addSub 64 = .ok (.iload_n 1, 1) := by decide +kernel
theorem dX1_addSub_65 : decode cX1_addSub 65 = .ok (.iload_n 2, 1) := by decide +kernel
theorem dX1_addSub_66 : decode cX1_addSub 66 = .ok (.iload_n 3, 1) := by decide +kernel
theorem dX1_addSub_67 : decode cX1_addSub 67 = .ok (.iload 4, 2) := by decide +kernel
theorem dX1_addSub_69 : decode cX1_addSub 69 = .ok (.invokevirtual 61, 3) := by decide +kernel
theorem dX1_addSub_72 : decode cX1_addSub 72 = .ok (.return_, 1) := by decide +kernel
theorem dX1_dropValue_0 : decode cX1_dropValue 0 = .ok (.iload_n 2, 1) := by decide +kernel
theorem dX1_dropValue_1 : decode cX1_dropValue 1 = .ok (.iconst 1, 1) := by decide +kernel
theorem dX1_dropValue_2 : decode cX1_dropValue 2 = .ok (.iadd, 1) := by decide +kernel
theorem dX1_dropValue_3 : decode cX1_dropValue 3 = .ok (.istore_n 3, 1) := by decide +kernel
theorem dX1_dropValue_4 : decode cX1_dropValue 4 = .ok (.iload_n 3, 1) := by decide +kernel
theorem dX1_dropValue_5 : decode cX1_dropValue 5 = .ok (.aload_n 0, 1) := by decide +kernel
theorem dX1_dropValue_6 : decode cX1_dropValue 6 = .ok (.getfield 19, 3) := by decide +kernel
theorem dX1_dropValue_9 : decode cX1_dropValue 9 = .ok (.iload_n 1, 1) := by decide +kernel
theorem dX1_dropValue_10 : decode cX1_dropValue 10 = .ok (.iaload, 1) := by decide +kernel
theorem dX1_dropValue_11 : decode cX1_dropValue 11 = .ok (.if_icmp .ge 18, 3) := by decide +kernel
theorem dX1_dropValue_14 : decode cX1_dropValue 14 = .ok (.aload_n 0, 1) := by decide +kernel
theorem dX1_dropValue_15 : decode cX1_dropValue 15 = .ok (.iload_n 1, 1) := by decide +kernel
theorem dX1_dropValue_16 : decode cX1_dropValue 16 = .ok (.iload_n 3, 1) := by decide +kernel
theorem dX1_dropValue_17 : decode cX1_dropValue 17 = .ok (.iload_n 3, 1) := by decide +kernel
theorem dX1_dropValue_18 : decode cX1_dropValue 18 = .ok (.iconst 1, 1) := by decide +kernel
theorem dX1_dropValue_19 : decode cX1_dropValue 19 = .ok (.isub, 1) := by decide +kernel
theorem dX1_dropValue_20 : decode cX1_dropValue 20 = .ok (.invokevirtual 57, 3) := by decide +kernel
theorem dX1_dropValue_23 : decode cX1_dropValue 23 = .ok (.iinc 3 1, 3) := by decide +kernel
theorem dX1_dropValue_26 : decode cX1_dropValue 26 = .ok (.goto (-22), 3) := by decide +kernel
theorem dX1_dropValue_29 : decode cX1_dropValue 29 = .ok (.aload_n 0, 1) := by decide +kernel
theorem dX1_dropValue_30 : decode cX1_dropValue 30 = .ok (.getfield 19, 3) := by decide +kernel
theorem dX1_dropValue_33 : decode cX1_dropValue 33 = .ok (.iload_n 1, 1) := by decide +kernel
theorem dX1_dropValue_34 : decode cX1_dropValue 34 = .ok (.dup2, 1) := by decide +kernel
theorem dX1_dropValue_35 : decode cX1_dropValue 35 = .ok (.iaload, 1) := by decide +kernel
theorem dX1_dropValue_36 : decode cX1_dropValue 36 = .ok (.iconst 1, 1) := by decide +kernel
theorem dX1_dropValue_37 : decode cX1_dropValue 37 = .ok (.isub, 1) := by decide +kernel
theorem dX1_dropValue_38 : decode cX1_dropValue 38 = .ok (.iastore, 1) := by decide +kernel
theorem dX1_dropValue_39 : decode cX1_dropValue 39 = .ok (.return_, 1) := by decide +kernel
theorem dX1_dropSub_0 : decode cX1_dropSub 0 = .ok (.aload_n 0, 1) := by decide +kernel
theorem dX1_dropSub_1 : decode cX1_dropSub 1 = .ok (.iload_n 1, 1) := by decide +kernel
theorem dX1_dropSub_2 : decode cX1_dropSub 2 = .ok (.iload_n 2, 1) := by decide +kernel
theorem dX1_dropSub_3 : decode cX1_dropSub 3 = .ok (.invokevirtual 49, 3) := by decide +kernel
theorem dX1_dropSub_6 : decode cX1_dropSub 6 = .ok (.istore 4, 2) := by decide +kernel
theorem dX1_dropSub_8 : decode cX1_dropSub 8 = .ok (.iload_n 3, 1) := by decide +kernel
theorem dX1_dropSub_9 : decode cX1_dropSub 9 = .ok (.iconst 1, 1) := by decide +kernel
theorem dX1_dropSub_10 : decode cX1_dropSub 10 = .ok (.iadd, 1) := by decide +kernel
theorem dX1_dropSub_11 : decode cX1_dropSub 11 = .ok (.istore 5, 2) := by decide +kernel
theorem dX1_dropSub_13 : decode cX1_dropSub 13 = .ok (.iload 5, 2) := by decide +kernel
theorem dX1_dropSub_15 : decode cX1_dropSub 15 = .ok (.iload 4, 2) := by decide +kernel
theorem dX1_dropSub_17 : decode cX1_dropSub 17 = .ok (.if_icmp .ge 27, 3) := by decide +kernel
theorem dX1_dropSub_20 : decode cX1_dropSub 20 = .ok (.aload_n 0, 1) := by decide +kernel
theorem dX1_dropSub_21 : decode cX1_dropSub 21 = .ok (.iload_n 1, 1) := by decide +kernel
theorem dX1_dropSub_22 : decode cX1_dropSub 22 = .ok (.iload_n 2, 1) := by decide +kernel
theorem dX1_dropSub_23 : decode cX1_dropSub 23 = .ok (.iload 5, 2) := by decide +kernel
theorem dX1_dropSub_25 : decode cX1_dropSub 25 = .ok (.iconst 1, 1) := by decide +kernel
theorem dX1_dropSub_26 : decode cX1_dropSub 26 = .ok (.isub, 1) := by decide +kernel
theorem dX1_dropSub_27 : decode cX1_dropSub 27 = .ok (.aload_n 0, 1) := by decide +kernel
theorem dX1_dropSub_28 : decode cX1_dropSub 28 = .ok (.iload_n 1, 1) := by decide +kernel
theorem dX1_dropSub_29 : decode cX1_dropSub 29 = .ok (.iload_n 2, 1) := by decide +kernel
theorem dX1_dropSub_30 : decode cX1_dropSub 30 = .ok (.iload 5, 2) := by decide +kernel
theorem dX1_dropSub_32 : decode cX1_dropSub 32 = .ok (.invokevirtual 65, 3) := by decide +kernel
theorem dX1_dropSub_35 : decode cX1_dropSub 35 = .ok (.invokevirtual 61, 3) := by decide +kernel
theorem dX1_dropSub_38 : decode cX1_dropSub 38 = .ok (.iinc 5 1, 3) := by decide +kernel
theorem dX1_dropSub_41 : decode cX1_dropSub 41 = .ok (.goto (-28), 3) := by decide +kernel
theorem dX1_dropSub_44 : decode cX1_dropSub 44 = .ok (.aload_n 0, 1) := by decide +kernel
theorem dX1_dropSub_45 : decode cX1_dropSub 45 = .ok (.getfield 23, 3) := by decide +kernel
theorem dX1_dropSub_48 : decode cX1_dropSub 48 = .ok (.iload_n 1, 1) := by decide +kernel
theorem dX1_dropSub_49 : decode cX1_dropSub 49 = .ok (.iconst 5, 1) := by decide +kernel
theorem dX1_dropSub_50 : decode cX1_dropSub 50 = .ok (.imul, 1) := by decide +kernel
theorem dX1_dropSub_51 : decode cX1_dropSub 51 = .ok (.iload_n 2, 1) := by decide +kernel
theorem dX1_dropSub_52 : decode cX1_dropSub 52 = .ok (.iadd, 1) := by decide +kernel
theorem dX1_dropSub_53 : decode cX1_dropSub 53 = .ok (.iload 4, 2) := by decide +kernel
theorem dX1_dropSub_55 : decode cX1_dropSub 55 = .ok (.iconst 1, 1) := by decide +kernel
theorem dX1_dropSub_56 : decode cX1_dropSub 56 = .ok (.isub, 1) := by decide +kernel
theorem dX1_dropSub_57 : decode cX1_dropSub 57 = .ok (.iastore, 1) := by decide +kernel
theorem dX1_dropSub_58 : decode cX1_dropSub 58 = .ok (.return_, 1) := by decide +kernel
theorem dX1_moveValue_0 : decode cX1_moveValue 0 = .ok (.iload_n 1, 1) := by decide +kernel
theorem dX1_moveValue_1 : decode cX1_moveValue 1 = .ok (.iconst 5, 1) := by decide +kernel
theorem dX1_moveValue_2 : decode cX1_moveValue 2 = .ok (.imul, 1) := by decide +kernel
theorem dX1_moveValue_3 : decode cX1_moveValue 3 = .ok (.iload_n 2, 1) := by decide +kernel
theorem dX1_moveValue_4 : decode cX1_moveValue 4 = .ok (.iadd, 1) := by decide +kernel
theorem dX1_moveValue_5 : decode cX1_moveValue 5 = .ok (.istore 4, 2) := by decide +kernel
theorem dX1_moveValue_7 : decode cX1_moveValue 7 = .ok (.iload_n 1, 1) := by decide +kernel
theorem dX1_moveValue_8 : decode cX1_moveValue 8 = .ok (.iconst 5, 1) := by decide +kernel
theorem dX1_moveValue_9 : decode cX1_moveValue 9 = .ok (.imul, 1) := by decide +kernel
theorem dX1_moveValue_10 : decode cX1_moveValue 10 = .ok (.iload_n 3, 1) := by decide +kernel
theorem dX1_moveValue_11 : decode cX1_moveValue 11 = .ok (.iadd, 1) := by decide +kernel
theorem dX1_moveValue_12 : decode cX1_moveValue 12 = .ok (.istore 5, 2) := by decide +kernel
theorem dX1_moveValue_14 : decode cX1_moveValue 14 = .ok (.aload_n 0, 1) := by decide +kernel
theorem dX1_moveValue_15 : decode cX1_moveValue 15 = .ok (.getfield 23, 3) := by decide +kernel
theorem dX1_moveValue_18 : decode cX1_moveValue 18 = .ok (.iload 5, 2) := by decide +kernel
theorem dX1_moveValue_20 : decode cX1_moveValue 20 = .ok (.aload_n 0, 1) := by decide +kernel
theorem dX1_moveValue_21 : decode cX1_moveValue 21 = .ok (.getfield 23, 3) := by decide +kernel
theorem dX1_moveValue_24 : decode cX1_moveValue 24 = .ok (.iload 4, 2) := by decide +kernel
theorem dX1_moveValue_26 : decode cX1_moveValue 26 = .ok (.iaload, 1) := by decide +kernel
theorem dX1_moveValue_27 : decode cX1_moveValue 27 = .ok (.iastore, 1) := by decide +kernel
theorem dX1_moveValue_28 : decode cX1_moveValue 28 = .ok (.aload_n 0, 1) := by decide +kernel
theorem dX1_moveValue_29 : decode cX1_moveValue 29 = .ok (.getfield 26, 3) := by decide +kernel
theorem dX1_moveValue_32 : decode cX1_moveValue 32 = .ok (.iload 4, 2) := by decide +kernel
theorem dX1_moveValue_34 : decode cX1_moveValue 34 = .ok (.iconst 4, 1) := by decide +kernel
theorem dX1_moveValue_35 : decode cX1_moveValue 35 = .ok (.imul, 1) := by decide +kernel
theorem dX1_moveValue_36 : decode cX1_moveValue 36 = .ok (.aload_n 0, 1) := by decide +kernel
theorem dX1_moveValue_37 : decode cX1_moveValue 37 = .ok (.getfield 26, 3) := by decide +kernel
theorem dX1_moveValue_40 : decode cX1_moveValue 40 = .ok (.iload 5, 2) := by decide +kernel
theorem dX1_moveValue_42 : decode cX1_moveValue 42 = .ok (.iconst 4, 1) := by decide +kernel
theorem dX1_moveValue_43 : decode cX1_moveValue 43 = .ok (.imul, 1) := by decide +kernel
theorem dX1_moveValue_44 : decode cX1_moveValue 44 = .ok (.iconst 4, 1) := by decide +kernel
theorem dX1_moveValue_45 : decode cX1_moveValue 45 = .ok (.invokestatic 36, 3) := by decide +kernel
theorem dX1_moveValue_48 : decode cX1_moveValue 48 = .ok (.return_, 1) := by decide +kernel
theorem dX1_giveSubs_0 : decode cX1_giveSubs 0 = .ok (.iconst 0, 1) := by decide +kernel
theorem dX1_giveSubs_1 : decode cX1_giveSubs 1 = .ok (.istore_n 3, 1) := by decide +kernel
theorem dX1_giveSubs_2 : decode cX1_giveSubs 2 = .ok (.iload_n 3, 1) := by decide +kernel
theorem dX1_giveSubs_3 : decode cX1_giveSubs 3 = .ok (.aload_n 0, 1) := by decide +kernel
theorem dX1_giveSubs_4 : decode cX1_giveSubs 4 = .ok (.getfield 19, 3) := by decide +kernel
theorem dX1_giveSubs_7 : decode cX1_giveSubs 7 = .ok (.iload_n 1, 1) := by decide +kernel
theorem dX1_giveSubs_8 : decode cX1_giveSubs 8 = .ok (.iaload, 1) := by decide +kernel
theorem dX1_giveSubs_9 : decode cX1_giveSubs 9 = .ok (.if_icmp .ge 41, 3) := by decide +kernel
theorem dX1_giveSubs_12 : decode cX1_giveSubs 12 = .ok (.iconst 0, 1) := by decide +kernel
theorem dX1_giveSubs_13 : decode cX1_giveSubs 13 = .ok (.istore 4, 2) := by decide +kernel
theorem dX1_giveSubs_15 : decode cX1_giveSubs 15 = .ok (.iload 4, 2) := by decide +kernel
theorem dX1_giveSubs_17 : decode cX1_giveSubs 17 = .ok (.aload_n 0, 1) := by decide +kernel
theorem dX1_giveSubs_18 : decode cX1_giveSubs 18 = .ok (.iload_n 1, 1) := by decide +kernel
theorem dX1_giveSubs_19 : decode cX1_giveSubs 19 = .ok (.iload_n 3, 1) := by decide +kernel
theorem dX1_giveSubs_20 : decode cX1_giveSubs 20 = .ok (.invokevirtual 49, 3) := by decide +kernel
theorem dX1_giveSubs_23 : decode cX1_giveSubs 23 = .ok (.if_icmp .ge 21, 3) := by decide +kernel
theorem dX1_giveSubs_26 : decode cX1_giveSubs 26 = .ok (.aload_n 2, 1) := by decide +kernel
theorem dX1_giveSubs_27 : decode cX1_giveSubs 27 = .ok (.aload_n 0, 1) := by decide +kernel
theorem dX1_giveSubs_28 : decode cX1_giveSubs 28 = .ok (.iload_n 1, 1) := by decide +kernel
theorem dX1_giveSubs_29 : decode cX1_giveSubs 29 = .ok (.iload_n 3, 1) := by decide +kernel
theorem dX1_giveSubs_30 : decode cX1_giveSubs 30 = .ok (.iload 4, 2) := by decide +kernel
theorem dX1_giveSubs_32 : decode cX1_giveSubs 32 = .ok (.invokevirtual 65, 3) := by decide +kernel
theorem dX1_giveSubs_35 : decode cX1_giveSubs 35 = .ok (.invokevirtual 69, 3) := by decide +kernel
theorem dX1_giveSubs_38 : decode cX1_giveSubs 38 = .ok (.iinc 4 1, 3) := by decide +kernel
theorem dX1_giveSubs_41 : decode cX1_giveSubs 41 = .ok (.goto (-26), 3) := by decide +kernel
theorem dX1_giveSubs_44 : decode cX1_giveSubs 44 = .ok (.iinc 3 1, 3) := by decide +kernel
theorem dX1_giveSubs_47 : decode cX1_giveSubs 47 = .ok (.goto (-45), 3) := by decide +kernel
theorem dX1_giveSubs_50 : decode cX1_giveSubs 50 = .ok (.return_, 1) := by decide +kernel
theorem dX1_giveSum_0 : decode cX1_giveSum 0 = .ok (.aload_n 0, 1) := by decide +kernel
theorem dX1_giveSum_1 : decode cX1_giveSum 1 = .ok (.iload_n 1, 1) := by decide +kernel
theorem dX1_giveSum_2 : decode cX1_giveSum 2 = .ok (.aload_n 2, 1) := by decide +kernel
theorem dX1_giveSum_3 : decode cX1_giveSum 3 = .ok (.invokevirtual 75, 3) := by decide +kernel
theorem dX1_giveSum_6 : decode cX1_giveSum 6 = .ok (.aload_n 2, 1) := by decide +kernel
theorem dX1_giveSum_7 : decode cX1_giveSum 7 = .ok (.invokevirtual 79, 3) := by decide +kernel
theorem dX1_giveSum_10 : decode cX1_giveSum 10 = .ok (.istore_n 3, 1) := by decide +kernel
theorem dX1_giveSum_11 : decode cX1_giveSum 11 = .ok (.aload_n 2, 1) := by decide +kernel
theorem dX1_giveSum_12 : decode cX1_giveSum 12 = .ok (.iconst 0, 1) := by decide +kernel
theorem dX1_giveSum_13 : decode cX1_giveSum 13 = .ok (.putfield 83, 3) := by decide +kernel
theorem dX1_giveSum_16 : decode cX1_giveSum 16 = .ok (.aload_n 2, 1) := by decide +kernel
theorem dX1_giveSum_17 : decode cX1_giveSum 17 = .ok (.iload_n 3, 1) := by decide +kernel
theorem dX1_giveSum_18 : decode cX1_giveSum 18 = .ok (.invokevirtual 69, 3) := by decide +kernel
theorem dX1_giveSum_21 : decode cX1_giveSum 21 = .ok (.return_, 1) := by decide +kernel
theorem dX1_giveGreatest_0 : decode cX1_giveGreatest 0 = .ok (.iconst 0, 1) := by decide +kernel
theorem dX1_giveGreatest_1 : decode cX1_giveGreatest 1 = .ok (.istore_n 3, 1) := by decide +kernel
theorem dX1_giveGreatest_2 : decode cX1_giveGreatest 2 = .ok (.iload_n 3, 1) := by decide +kernel
theorem dX1_giveGreatest_3 : decode cX1_giveGreatest 3 = .ok (.aload_n 0, 1) := by decide +kernel
theorem dX1_giveGreatest_4 : decode cX1_giveGreatest 4 = .ok (.getfield 19, 3) := by decide +kernel
theorem dX1_giveGreatest_7 : decode cX1_giveGreatest 7 = .ok (.iload_n 1, 1) := by decide +kernel
theorem dX1_giveGreatest_8 : decode cX1_giveGreatest 8 = .ok (.iaload, 1) := by decide +kernel
theorem dX1_giveGreatest_9 : decode cX1_giveGreatest 9 = .ok (.if_icmp .ge 59, 3) := by decide +kernel
theorem dX1_giveGreatest_12 : decode cX1_giveGreatest 12 = .ok (.aload_n 0, 1) := by decide +kernel
theorem dX1_giveGreatest_13 : decode cX1_giveGreatest 13 = .ok (.iload_n 1, 1) := by decide +kernel
theorem dX1_giveGreatest_14 : decode cX1_giveGreatest 14 = .ok (.iload_n 3, 1) := by decide +kernel
theorem dX1_giveGreatest_15 : decode cX1_giveGreatest 15 = .ok (.iconst 0, 1) := by decide +kernel
theorem dX1_giveGreatest_16 : decode cX1_giveGreatest 16 = .ok (.invokevirtual 65, 3) := by decide +kernel
theorem dX1_giveGreatest_19 : decode cX1_giveGreatest 19 = .ok (.istore 4, 2) := by decide +kernel
theorem dX1_giveGreatest_21 : decode cX1_giveGreatest 21 = .ok (.iconst 1, 1) := by decide +kernel
theorem dX1_giveGreatest_22 : decode cX1_giveGreatest 22 = .ok (.istore 5, 2) := by decide +kernel
theorem dX1_giveGreatest_24 : decode cX1_giveGreatest 24 = .ok (.iload 5, 2) := by decide +kernel
theorem dX1_giveGreatest_26 : decode cX1_giveGreatest 26 = .ok (.aload_n 0, 1) := by decide +kernel
theorem dX1_giveGreatest_27 : decode cX1_giveGreatest 27 = .ok (.iload_n 1, 1) := by decide +kernel
theorem dX1_giveGreatest_28 : decode cX1_giveGreatest 28 = .ok (.iload_n 3, 1) := by decide +kernel
theorem dX1_giveGreatest_29 : decode cX1_giveGreatest 29 = .ok (.invokevirtual 49, 3) := by decide +kernel
theorem dX1_giveGreatest_32 : decode cX1_giveGreatest 32 = .ok (.if_icmp .ge 24, 3) := by decide +kernel
theorem dX1_giveGreatest_35 : decode cX1_giveGreatest 35 = .ok (.iload 4, 2) := by decide +kernel
theorem dX1_giveGreatest_37 : decode cX1_giveGreatest 37 = .ok (.aload_n 0, 1) := by decide +kernel
theorem dX1_giveGreatest_38 : decode cX1_giveGreatest 38 = .ok (.iload_n 1, 1) := by decide +kernel
theorem dX1_giveGreatest_39 : decode cX1_giveGreatest 39 = .ok (.iload_n 3, 1) := by decide +kernel
theorem dX1_giveGreatest_40 : decode cX1_giveGreatest 40 = .ok (.iload 5, 2) := by decide +kernel
theorem dX1_giveGreatest_42 : decode cX1_giveGreatest 42 = .ok (.invokevirtual 65, 3) := by decide +kernel
theorem dX1_giveGreatest_45 : decode cX1_giveGreatest 45 = .ok (.invokestatic 86, 3) := by decide +kernel
theorem dX1_giveGreatest_48 : decode cX1_giveGreatest 48 = .ok (.istore 4, 2) := by decide +kernel
theorem dX1_giveGreatest_50 : decode cX1_giveGreatest 50 = .ok (.iinc 5 1, 3) := by decide +kernel
theorem dX1_giveGreatest_53 : decode cX1_giveGreatest 53 = .ok (.goto (-29), 3) := by decide +kernel
theorem dX1_giveGreatest_56 : decode cX1_giveGreatest 56 = .ok (.aload_n 2, 1) := by decide +kernel
theorem dX1_giveGreatest_57 : decode cX1_giveGreatest 57 = .ok (.iload 4, 2) := by decide +kernel
theorem dX1_giveGreatest_59 : decode cX1_giveGreatest 59 = .ok (.invokevirtual 69, 3) := by decide +kernel
theorem dX1_giveGreatest_62 : decode cX1_giveGreatest 62 = .ok (.iinc 3 1, 3) := by decide +kernel
theorem dX1_giveGreatest_65 : decode cX1_giveGreatest 65 = .ok (.goto (-63), 3) := by decide +kernel
theorem dX1_giveGreatest_68 : decode cX1_giveGreatest 68 = .ok (.return_, 1) := by decide +kernel
theorem dX1_giveProducts_0 : decode cX1_giveProducts 0 = .ok (.aload_n 0, 1) := by decide +kernel
theorem dX1_giveProducts_1 : decode cX1_giveProducts 1 = .ok (.getfield 19, 3) := by decide +kernel
theorem dX1_giveProducts_4 : decode cX1_giveProducts 4 = .ok (.iload_n 1, 1) := by decide +kernel
theorem dX1_giveProducts_5 : decode cX1_giveProducts 5 = .ok (.iaload, 1) := by decide +kernel
theorem dX1_giveProducts_6 : decode cX1_giveProducts 6 = .ok (.aload_n 0, 1) := by decide +kernel
theorem dX1_giveProducts_7 : decode cX1_giveProducts 7 = .ok (.getfield 19, 3) := by decide +kernel
theorem dX1_giveProducts_10 : decode cX1_giveProducts 10 = .ok (.iload_n 2, 1) := by decide +kernel
theorem dX1_giveProducts_11 : decode cX1_giveProducts 11 = .ok (.iaload, 1) := by decide +kernel
theorem dX1_giveProducts_12 : decode cX1_giveProducts 12 = .ok (.invokestatic 91, 3) := by decide +kernel
theorem dX1_giveProducts_15 : decode cX1_giveProducts 15 = .ok (.istore 4, 2) := by decide +kernel
theorem dX1_giveProducts_17 : decode cX1_giveProducts 17 = .ok (.iconst 0, 1) := by decide +kernel
theorem dX1_giveProducts_18 : decode cX1_giveProducts 18 = .ok (.istore 5, 2) := by decide +kernel
theorem dX1_giveProducts_20 : decode cX1_giveProducts 20 = .ok (.iload 5, 2) := by decide +kernel
theorem dX1_giveProducts_22 : decode cX1_giveProducts 22 = .ok (.iload 4, 2) := by decide +kernel
theorem dX1_giveProducts_24 : decode cX1_giveProducts 24 = .ok (.if_icmp .ge 30, 3) := by decide +kernel
theorem dX1_giveProducts_27 : decode cX1_giveProducts 27 = .ok (.aload_n 3, 1) := by decide +kernel
theorem dX1_giveProducts_28 : decode cX1_giveProducts 28 = .ok (.aload_n 0, 1) := by decide +kernel
theorem dX1_giveProducts_29 : decode cX1_giveProducts 29 = .ok (.iload_n 1, 1) := by decide +kernel
theorem dX1_giveProducts_30 : decode cX1_giveProducts 30 = .ok (.iload 5, 2) := by decide +kernel
theorem dX1_giveProducts_32 : decode cX1_giveProducts 32 = .ok (.iconst 0, 1) := by decide +kernel
theorem dX1_giveProducts_33 : decode cX1_giveProducts 33 = .ok (.invokevirtual 65, 3) := by decide +kernel
theorem dX1_giveProducts_36 : decode cX1_giveProducts 36 = .ok (.aload_n 0, 1) := by decide +kernel
theorem dX1_giveProducts_37 : decode cX1_giveProducts 37 = .ok (.iload_n 2, 1) := by decide +kernel
theorem dX1_giveProducts_38 : decode cX1_giveProducts 38 = .ok (.iload 5, 2) := by decide +kernel
theorem dX1_giveProducts_40 : decode cX1_giveProducts 40 = .ok (.iconst 0, 1) := by decide +kernel
theorem dX1_giveProducts_41 : decode cX1_giveProducts 41 = .ok (.invokevirtual 65, 3) := by decide +kernel
theorem dX1_giveProducts_44 : decode cX1_giveProducts 44 = .ok (.imul, 1) := by decide +kernel
theorem dX1_giveProducts_45 : decode cX1_giveProducts 45 = .ok (.invokevirtual 69, 3) := by decide +kernel
theorem dX1_giveProducts_48 : decode cX1_giveProducts 48 = .ok (.iinc 5 1, 3) := by decide +kernel
theorem dX1_giveProducts_51 : decode cX1_giveProducts 51 = .ok (.goto (-31), 3) := by decide +kernel
theorem dX1_giveProducts_54 : decode cX1_giveProducts 54 = .ok (.return_, 1) := by decide +kernel
end
section
theorem dX2_init_0 : decode cX2_init 0 = .ok (.aload_n 0, 1) := by decide +kernel
theorem dX2_init_1 : decode cX2_init 1 = .ok (.invokespecial 3, 3) := by decide +kernel
theorem dX2_init_4 : decode cX2_init 4 = .ok (.aload_n 0, 1) := by decide +kernel
theorem dX2_init_5 : decode cX2_init 5 = .ok (.bipush 20, 2) := by decide +kernel
theorem dX2_init_7 : decode cX2_init 7 = .ok (.newarray .int, 2) := by decide +kernel
theorem dX2_init_9 : decode cX2_init 9 = .ok (.putfield 9, 3) := by decide +kernel
theorem dX2_init_12 : decode cX2_init 12 = .ok (.aload_n 0, 1) := by decide +kernel
theorem dX2_init_13 : decode cX2_init 13 = .ok (.iconst 0, 1) := by decide +kernel
theorem dX2_init_14 : decode cX2_init 14 = .ok (.putfield 15, 3) := by decide +kernel
theorem dX2_init_17 : decode cX2_init 17 = .ok (.return_, 1) := by decide +kernel
theorem dX2_add_0 : decode cX2_add 0 = .ok (.aload_n 0, 1) := by decide +kernel
theorem dX2_add_1 : decode cX2_add 1 = .ok (.getfield 15, 3) := by decide +kernel
theorem dX2_add_4 : decode cX2_add 4 = .ok (.bipush 20, 2) := by decide +kernel
theorem dX2_add_6 : decode cX2_add 6 = .ok (.if_icmp .ge 23, 3) := by decide +kernel
theorem dX2_add_9 : decode cX2_add 9 = .ok (.aload_n 0, 1) := by decide +kernel
theorem dX2_add_10 : decode cX2_add 10 = .ok (.getfield 9, 3) := by decide +kernel
theorem dX2_add_13 : decode cX2_add 13 = .ok (.aload_n 0, 1) := by decide +kernel
theorem dX2_add_14 : decode cX2_add 14 = .ok (.getfield 15, 3) := by decide +kernel
theorem dX2_add_17 : decode cX2_add 17 = .ok (.iload_n 1, 1) := by decide +kernel
theorem dX2_add_18 : decode cX2_add 18 = .ok (.iastore, 1) := by decide +kernel
theorem dX2_add_19 : decode cX2_add 19 = .ok (.aload_n 0, 1) := by decide +kernel
theorem dX2_add_20 : decode cX2_add 20 = .ok (.dup, 1) := by decide +kernel
theorem dX2_add_21 : decode cX2_add 21 = .ok (.getfield 15, 3) := by decide +kernel
theorem dX2_add_24 : decode cX2_add 24 = .ok (.iconst 1, 1) := by decide +kernel
theorem dX2_add_25 : decode cX2_add 25 = .ok (.iadd, 1) := by decide +kernel
theorem dX2_add_26 : decode cX2_add 26 = .ok (.putfield 15, 3) := by decide +kernel
theorem dX2_add_29 : decode cX2_add 29 = .ok (.return_, 1) := by decide +kernel
theorem dX2_at_0 : decode cX2_at 0 = .ok (.iload_n 1, 1) := by decide +kernel
theorem dX2_at_1 : decode cX2_at 1 = .ok (.aload_n 0, 1) := by decide +kernel
theorem dX2_at_2 : decode cX2_at 2 = .ok (.getfield 15, 3) := by decide +kernel
theorem dX2_at_5 : decode cX2_at 5 = .ok (.invokestatic 19, 3) := by decide +kernel
theorem dX2_at_8 : decode cX2_at 8 = .ok (.ifCond .eq 12, 3) := by decide +kernel
theorem dX2_at_11 : decode cX2_at 11 = .ok (.aload_n 0, 1) := by decide +kernel
theorem dX2_at_12 : decode cX2_at 12 = .ok (.getfield 9, 3) := by decide +kernel
theorem dX2_at_15 : decode cX2_at 15 = .ok (.iload_n 1, 1) := by decide +kernel
theorem dX2_at_16 : decode cX2_at 16 = .ok (.iaload, 1) := by decide +kernel
theorem dX2_at_17 : decode cX2_at 17 = .ok (.goto 4, 3) := by decide +kernel
theorem dX2_at_20 : decode cX2_at 20 = .ok (.iconst 0, 1) := by decide +kernel
theorem dX2_at_21 : decode cX2_at 21 = .ok (.ireturn, 1) := by decide +kernel
theorem dX2_sum_0 : decode cX2_sum 0 = .ok (.iconst 0, 1) := by decide +kernel
theorem dX2_sum_1 : decode cX2_sum 1 = .ok (.istore_n 1, 1) := by decide +kernel
theorem dX2_sum_2 : decode cX2_sum 2 = .ok (.iconst 0, 1) := by decide +kernel
theorem dX2_sum_3 : decode cX2_sum 3 = .ok (.istore_n 2, 1) := by decide +kernel
theorem dX2_sum_4 : decode cX2_sum 4 = .ok (.iload_n 2, 1) := by decide +kernel
theorem dX2_sum_5 : decode cX2_sum 5 = .ok (.aload_n 0, 1) := by decide +kernel
theorem dX2_sum_6 : decode cX2_sum 6 = .ok (.getfield 15, 3) := by decide +kernel
theorem dX2_sum_9 : decode cX2_sum 9 = .ok (.if_icmp .ge 18, 3) := by decide +kernel
theorem dX2_sum_12 : decode cX2_sum 12 = .ok (.iload_n 1, 1) := by decide +kernel
theorem dX2_sum_13 : decode cX2_sum 13 = .ok (.aload_n 0, 1) := by decide +kernel
theorem dX2_sum_14 : decode cX2_sum 14 = .ok (.getfield 9, 3) := by decide +kernel
theorem dX2_sum_17 : decode cX2_sum 17 = .ok (.iload_n 2, 1) := by decide +kernel
theorem dX2_sum_18 : decode cX2_sum 18 = .ok (.iaload, 1) := by decide +kernel
theorem dX2_sum_19 : decode cX2_sum 19 = .ok (.iadd, 1) := by decide +kernel
theorem dX2_sum_20 : decode cX2_sum 20 = .ok (.istore_n 1, 1) := by decide +kernel
theorem dX2_sum_21 : decode cX2_sum 21 = .ok (.iinc 2 1, 3) := by decide +kernel
theorem dX2_sum_24 : decode cX2_sum 24 = .ok (.goto (-20), 3) := by decide +kernel
theorem dX2_sum_27 : decode cX2_sum 27 = .ok (.iload_n 1, 1) := by decide +kernel
theorem dX2_sum_28 : decode cX2_sum 28 = .ok (.ireturn, 1) := by decide +kernel
end
section
theorem dX3_init_0 : decode cX3_init 0 = .ok (.aload_n 0, 1) := by decide +kernel
theorem dX3_init_1 : decode cX3_init 1 = .ok (.invokespecial 1, 3) := by decide +kernel
theorem dX3_init_4 : decode cX3_init 4 = .ok (.aload_n 0, 1) := by decide +kernel
theorem dX3_init_5 : decode cX3_init 5 = .ok (.iload_n 1, 1) := by decide +kernel
theorem dX3_init_6 : decode cX3_init 6 = .ok (.ifCond .ge 7, 3) := by decide +kernel
theorem dX3_init_9 : decode cX3_init 9 = .ok (.iconst 0, 1) := by decide +kernel
theorem dX3_init_10 : decode cX3_init 10 = .ok (.goto 4, 3) := by decide +kernel
theorem dX3_init_13 : decode cX3_init 13 = .ok (.iload_n 1, 1) := by decide +kernel
theorem dX3_init_14 : decode cX3_init 14 = .ok (.newarray .char, 2) := by decide +kernel
theorem dX3_init_16 : decode cX3_init 16 = .ok (.putfield 7, 3) := by decide +kernel
theorem dX3_init_19 : decode cX3_init 19 = .ok (.aload_n 0, 1) := by decide +kernel
theorem dX3_init_20 : decode cX3_init 20 = .ok (.iconst 0, 1) := by decide +kernel
theorem dX3_init_21 : decode cX3_init 21 = .ok (.putfield 13, 3) := by decide +kernel
theorem dX3_init_24 : decode cX3_init 24 = .ok (.return_, 1) := by decide +kernel
theorem dX3_put_0 : decode cX3_put 0 = .ok (.aload_n 0, 1) := by decide +kernel
theorem dX3_put_1 : decode cX3_put 1 = .ok (.getfield 13, 3) := by decide +kernel
theorem dX3_put_4 : decode cX3_put 4 = .ok (.aload_n 0, 1) := by decide +kernel
theorem dX3_put_5 : decode cX3_put 5 = .ok (.getfield 7, 3) := by decide +kernel
theorem dX3_put_8 : decode cX3_put 8 = .ok (.arraylength, 1) := by decide +kernel
theorem dX3_put_9 : decode cX3_put 9 = .ok (.if_icmp .ge 24, 3) := by decide +kernel
theorem dX3_put_12 : decode cX3_put 12 = .ok (.aload_n 0, 1) := by decide +kernel
theorem dX3_put_13 : decode cX3_put 13 = .ok (.getfield 7, 3) := by decide +kernel
theorem dX3_put_16 : decode cX3_put 16 = .ok (.aload_n 0, 1) := by decide +kernel
theorem dX3_put_17 : decode cX3_put 17 = .ok (.getfield 13, 3) := by decide +kernel
theorem dX3_put_20 : decode cX3_put 20 = .ok (.iload_n 1, 1) := by decide +kernel
theorem dX3_put_21 : decode cX3_put 21 = .ok (.i2c, 1) := by decide +kernel
theorem dX3_put_22 : decode cX3_put 22 = .ok (.castore, 1) := by decide +kernel
theorem dX3_put_23 : decode cX3_put 23 = .ok (.aload_n 0, 1) := by decide +kernel
theorem dX3_put_24 : decode cX3_put 24 = .ok (.dup, 1) := by decide +kernel
theorem dX3_put_25 : decode cX3_put 25 = .ok (.getfield 13, 3) := by decide +kernel
theorem dX3_put_28 : decode cX3_put 28 = .ok (.iconst 1, 1) := by decide +kernel
theorem dX3_put_29 : decode cX3_put 29 = .ok (.iadd, 1) := by decide +kernel
theorem dX3_put_30 : decode cX3_put 30 = .ok (.putfield 13, 3) := by decide +kernel
theorem dX3_put_33 : decode cX3_put 33 = .ok (.return_, 1) := by decide +kernel
theorem dX3_putNumber_0 : decode cX3_putNumber 0 = .ok (.iload_n 1, 1) := by decide +kernel
theorem dX3_putNumber_1 : decode cX3_putNumber 1 = .ok (.invokestatic 17, 3) := by decide +kernel
theorem dX3_putNumber_4 : decode cX3_putNumber 4 = .ok (.istore_n 2, 1) := by decide +kernel
theorem dX3_putNumber_5 : decode cX3_putNumber 5 = .ok (.iload_n 1, 1) := by decide +kernel
theorem dX3_putNumber_6 : decode cX3_putNumber 6 = .ok (.ifCond .ge 9, 3) := by decide +kernel
theorem dX3_putNumber_9 : decode cX3_putNumber 9 = .ok (.aload_n 0, 1) := by decide +kernel
theorem dX3_putNumber_10 : decode cX3_putNumber 10 = .ok (.bipush 45, 2) := by decide +kernel
theorem dX3_putNumber_12 : decode cX3_putNumber 12 = .ok (.invokevirtual 23, 3) := by decide +kernel
theorem dX3_putNumber_15 : decode cX3_putNumber 15 = .ok (.iload_n 2, 1) := by decide +kernel
theorem dX3_putNumber_16 : decode cX3_putNumber 16 = .ok (.bipush 100, 2) := by decide +kernel
theorem dX3_putNumber_18 : decode cX3_putNumber 18 = .ok (.if_icmp .lt 14, 3) := by decide +kernel
theorem dX3_putNumber_21 : decode cX3_putNumber 21 = .ok (.aload_n 0, 1) := by decide +kernel
theorem dX3_putNumber_22 : decode cX3_putNumber 22 = .ok (.bipush 48, 2) := by decide +kernel
theorem dX3_putNumber_24 : decode cX3_putNumber 24 = .ok (.iload_n 2, 1) := by decide +kernel
theorem dX3_putNumber_25 : decode cX3_putNumber 25 = .ok (.bipush 100, 2) := by decide +kernel
theorem dX3_putNumber_27 : decode cX3_putNumber 27 = .ok (.idiv, 1) := by decide +kernel
theorem dX3_putNumber_28 : decode cX3_putNumber 28 = .ok (.iadd, 1) := by decide +kernel
theorem dX3_putNumber_29 : decode cX3_putNumber 29 = .ok (.invokevirtual 23, 3) := by decide +kernel
theorem dX3_putNumber_32 : decode cX3_putNumber 32 = .ok (.iload_n 2, 1) := by decide +kernel
theorem dX3_putNumber_33 : decode cX3_putNumber 33 = .ok (.bipush 10, 2) := by decide +kernel
theorem dX3_putNumber_35 : decode cX3_putNumber 35 = .ok (.if_icmp .lt 17, 3) := by decide +kernel
theorem dX3_putNumber_38 : decode cX3_putNumber 38 = .ok (.aload_n 0, 1) := by decide +kernel
theorem dX3_putNumber_39 : decode cX3_putNumber 39 = .ok (.bipush 48, 2) := by decide +kernel
theorem dX3_putNumber_41 : decode cX3_putNumber 41 = .ok (.iload_n 2, 1) := by decide +kernel
theorem dX3_putNumber_42 : decode cX3_putNumber 42 = .ok (.bipush 10, 2) := by decide +kernel
theorem dX3_putNumber_44 : decode cX3_putNumber 44 = .ok (.idiv, 1) := by decide +kernel
theorem dX3_putNumber_45 : decode cX3_putNumber 45 = .ok (.bipush 10, 2) := by decide +kernel
theorem dX3_putNumber_47 : decode cX3_putNumber 47 = .ok (.irem, 1) := by decide +kernel
theorem dX3_putNumber_48 : decode cX3_putNumber 48 = .ok (.iadd, 1) := by decide +kernel
theorem dX3_putNumber_49 : decode cX3_putNumber 49 = .ok (.invokevirtual 23, 3) := by decide +kernel
theorem dX3_putNumber_52 : decode cX3_putNumber 52 = .ok (.aload_n 0, 1) := by decide +kernel
theorem dX3_putNumber_53 : decode cX3_putNumber 53 = .ok (.bipush 48, 2) := by decide +kernel
theorem dX3_putNumber_55 : decode cX3_putNumber 55 = .ok (.iload_n 2, 1) := by decide +kernel
theorem dX3_putNumber_56 : decode cX3_putNumber 56 = .ok (.bipush 10, 2) := by decide +kernel
theorem dX3_putNumber_58 : decode cX3_putNumber 58 = .ok (.irem, 1) := by decide +kernel
theorem dX3_putNumber_59 : decode cX3_putNumber 59 = .ok (.iadd, 1) := by decide +kernel
theorem dX3_putNumber_60 : decode cX3_putNumber 60 = .ok (.invokevirtual 23, 3) := by decide +kernel
theorem dX3_putNumber_63 : decode cX3_putNumber 63 = .ok (.return_, 1) := by decide +kernel
theorem dX3_at_0 : decode cX3_at 0 = .ok (.iload_n 1, 1) := by decide +kernel
theorem dX3_at_1 : decode cX3_at 1 = .ok (.aload_n 0, 1) := by decide +kernel
theorem dX3_at_2 : decode cX3_at 2 = .ok (.getfield 13, 3) := by decide +kernel
theorem dX3_at_5 : decode cX3_at 5 = .ok (.invokestatic 27, 3) := by decide +kernel
theorem dX3_at_8 : decode cX3_at 8 = .ok (.ifCond .eq 12, 3) := by decide +kernel
theorem dX3_at_11 : decode cX3_at 11 = .ok (.aload_n 0, 1) := by decide +kernel
theorem dX3_at_12 : decode cX3_at 12 = .ok (.getfield 7, 3) := by decide +kernel
theorem dX3_at_15 : decode cX3_at 15 = .ok (.iload_n 1, 1) := by decide +kernel
theorem dX3_at_16 : decode cX3_at 16 = .ok (.caload, 1) := by decide +kernel
theorem dX3_at_17 : decode cX3_at 17 = .ok (.goto 4, 3) := by decide +kernel
theorem dX3_at_20 : decode cX3_at 20 = .ok (.iconst 0, 1) := by decide +kernel
theorem dX3_at_21 : decode cX3_at 21 = .ok (.ireturn, 1) := by decide +kernel
end
section
theorem dX4_init_0 : decode cX4_init 0 = .ok (.aload_n 0, 1) := by decide +kernel
theorem dX4_init_1 : decode cX4_init 1 = .ok (.invokespecial 3, 3) := by decide +kernel
theorem dX4_init_4 : decode cX4_init 4 = .ok (.aload_n 0, 1) := by decide +kernel
theorem dX4_init_5 : decode cX4_init 5 = .ok (.bipush 10, 2) := by decide +kernel
theorem dX4_init_7 : decode cX4_init 7 = .ok (.anewarray 9, 3) := by decide +kernel
theorem dX4_init_10 : decode cX4_init 10 = .ok (.putfield 11, 3) := by decide +kernel
theorem dX4_init_13 : decode cX4_init 13 = .ok (.iconst 0, 1) := by decide +kernel
theorem dX4_init_14 : decode cX4_init 14 = .ok (.istore_n 1, 1) := by decide +kernel
theorem dX4_init_15 : decode cX4_init 15 = .ok (.iload_n 1, 1) := by decide +kernel
theorem dX4_init_16 : decode cX4_init 16 = .ok (.bipush 10, 2) := by decide +kernel
theorem dX4_init_18 : decode cX4_init 18 = .ok (.if_icmp .ge 22, 3) := by decide +kernel
theorem dX4_init_21 : decode cX4_init 21 = .ok (.aload_n 0, 1) := by decide +kernel
theorem dX4_init_22 : decode cX4_init 22 = .ok (.getfield 11, 3) := by decide +kernel
theorem dX4_init_25 : decode cX4_init 25 = .ok (.iload_n 1, 1) := by decide +kernel
theorem dX4_init_26 : decode cX4_init 26 = .ok (.new 9, 3) := by decide +kernel
theorem dX4_init_29 : decode cX4_init 29 = .ok (.dup, 1) := by decide +kernel
theorem dX4_init_30 : decode cX4_init 30 = .ok (.invokespecial 17, 3) := by decide +kernel
theorem dX4_init_33 : decode cX4_init 33 = .ok (.aastore, 1) := by decide +kernel
theorem dX4_init_34 : decode cX4_init 34 = .ok (.iinc 1 1, 3) := by decide +kernel
theorem dX4_init_37 : decode cX4_init 37 = .ok (.goto (-22), 3) := by decide +kernel
theorem dX4_init_40 : decode cX4_init 40 = .ok (.aload_n 0, 1) := by decide +kernel
theorem dX4_init_41 : decode cX4_init 41 = .ok (.iconst 0, 1) := by decide +kernel
theorem dX4_init_42 : decode cX4_init 42 = .ok (.putfield 18, 3) := by decide +kernel
theorem dX4_init_45 : decode cX4_init 45 = .ok (.aload_n 0, 1) := by decide +kernel
theorem dX4_init_46 : decode cX4_init 46 = .ok (.iconst 4, 1) := by decide +kernel
theorem dX4_init_47 : decode cX4_init 47 = .ok (.newarray .boolean, 2) := by decide +kernel
theorem dX4_init_49 : decode cX4_init 49 = .ok (.putfield 22, 3) := by decide +kernel
theorem dX4_init_52 : decode cX4_init 52 = .ok (.aload_n 0, 1) := by decide +kernel
theorem dX4_init_53 : decode cX4_init 53 = .ok (.getfield 22, 3) := by decide +kernel
theorem dX4_init_56 : decode cX4_init 56 = .ok (.iconst 1, 1) := by decide +kernel
theorem dX4_init_57 : decode cX4_init 57 = .ok (.iconst 1, 1) := by decide +kernel
theorem dX4_init_58 : decode cX4_init 58 = .ok (.bastore, 1) := by decide +kernel
theorem dX4_init_59 : decode cX4_init 59 = .ok (.aload_n 0, 1) := by decide +kernel
theorem dX4_init_60 : decode cX4_init 60 = .ok (.getfield 22, 3) := by decide +kernel
theorem dX4_init_63 : decode cX4_init 63 = .ok (.iconst 2, 1) := by decide +kernel
theorem dX4_init_64 : decode cX4_init 64 = .ok (.iconst 1, 1) := by decide +kernel
theorem dX4_init_65 : decode cX4_init 65 = .ok (.bastore, 1) := by decide +kernel
theorem dX4_init_66 : decode cX4_init 66 = .ok (.aload_n 0, 1) := by decide +kernel
theorem dX4_init_67 : decode cX4_init 67 = .ok (.bipush 6, 2) := by decide +kernel
theorem dX4_init_69 : decode cX4_init 69 = .ok (.newarray .int, 2) := by decide +kernel
theorem dX4_init_71 : decode cX4_init 71 = .ok (.putfield 26, 3) := by decide +kernel
theorem dX4_init_74 : decode cX4_init 74 = .ok (.aload_n 0, 1) := by decide +kernel
theorem dX4_init_75 : decode cX4_init 75 = .ok (.bipush 6, 2) := by decide +kernel
theorem dX4_init_77 : decode cX4_init 77 = .ok (.newarray .int, 2) := by decide +kernel
theorem dX4_init_79 : decode cX4_init 79 = .ok (.putfield 30, 3) := by decide +kernel
theorem dX4_init_82 : decode cX4_init 82 = .ok (.aload_n 0, 1) := by decide +kernel
theorem dX4_init_83 : decode cX4_init 83 = .ok (.bipush 6, 2) := by decide +kernel
theorem dX4_init_85 : decode cX4_init 85 = .ok (.newarray .int, 2) := by decide +kernel
theorem dX4_init_87 : decode cX4_init 87 = .ok (.putfield 33, 3) := by decide +kernel
theorem dX4_init_90 : decode cX4_init 90 = .ok (.iconst 0, 1) := by decide +kernel
theorem dX4_init_91 : decode cX4_init 91 = .ok (.istore_n 1, 1) := by decide +kernel
theorem dX4_init_92 : decode cX4_init 92 = .ok (.iload_n 1, 1) := by decide +kernel
theorem dX4_init_93 : decode cX4_init 93 = .ok (.iconst 4, 1) := by decide +kernel
theorem dX4_init_94 : decode cX4_init 94 = .ok (.if_icmp .ge 17, 3) := by decide +kernel
theorem dX4_init_97 : decode cX4_init 97 = .ok (.aload_n 0, 1) := by decide +kernel
theorem dX4_init_98 : decode cX4_init 98 = .ok (.iload_n 1, 1) := by decide +kernel
theorem dX4_init_99 : decode cX4_init 99 = .ok (.iconst 0, 1) := by decide +kernel
theorem dX4_init_100 : decode cX4_init 100 = .ok (.iload_n 1, 1) := by decide +kernel
theorem dX4_init_101 : decode cX4_init 101 = .ok (.iconst 0, 1) := by decide +kernel
theorem dX4_init_102 : decode cX4_init 102 = .ok (.invokevirtual 36, 3) := by decide +kernel
theorem dX4_init_105 : decode cX4_init 105 = .ok (.iinc 1 1, 3) := by decide +kernel
theorem dX4_init_108 : decode cX4_init 108 = .ok (.goto (-16), 3) := by decide +kernel
theorem dX4_init_111 : decode cX4_init 111 = .ok (.aload_n 0, 1) := by decide +kernel
theorem dX4_init_112 : decode cX4_init 112 = .ok (.iconst 4, 1) := by decide +kernel
theorem dX4_init_113 : decode cX4_init 113 = .ok (.iconst 1, 1) := by decide +kernel
theorem dX4_init_114 : decode cX4_init 114 = .ok (.iconst 0, 1) := by decide +kernel
theorem dX4_init_115 : decode cX4_init 115 = .ok (.iconst 0, 1) := by decide +kernel
theorem dX4_init_116 : decode cX4_init 116 = .ok (.invokevirtual 36, 3) := by decide +kernel
theorem dX4_init_119 : decode cX4_init 119 = .ok (.aload_n 0, 1) := by decide +kernel
theorem dX4_init_120 : decode cX4_init 120 = .ok (.iconst 5, 1) := by decide +kernel
theorem dX4_init_121 : decode cX4_init 121 = .ok (.iconst 4, 1) := by decide +kernel
theorem dX4_init_122 : decode cX4_init 122 = .ok (.iconst 1, 1) := by decide +kernel
theorem dX4_init_123 : decode cX4_init 123 = .ok (.iconst 2, 1) := by decide +kernel
theorem dX4_init_124 : decode cX4_init 124 = .ok (.invokevirtual 36, 3) := by decide +kernel
theorem dX4_init_127 : decode cX4_init 127 = .ok (.aload_n 0, 1) := by decide +kernel
theorem dX4_init_128 : decode cX4_init 128 = .ok (.sipush 800, 3) := by decide +kernel
theorem dX4_init_131 : decode cX4_init 131 = .ok (.newarray .boolean, 2) := by decide +kernel
theorem dX4_init_133 : decode cX4_init 133 = .ok (.putfield 40, 3) := by decide +kernel
theorem dX4_init_136 : decode cX4_init 136 = .ok (.return_, 1) := by decide +kernel
theorem dX4_copyState_0 : decode cX4_copyState 0 = .ok (.aload_n 0, 1) := by decide +kernel
theorem dX4_copyState_1 : decode cX4_copyState 1 = .ok (.aload_n 1, 1) := by decide +kernel
theorem dX4_copyState_2 : decode cX4_copyState 2 = .ok (.getfield 18, 3) := by decide +kernel
theorem dX4_copyState_5 : decode cX4_copyState 5 = .ok (.putfield 18, 3) := by decide +kernel
theorem dX4_copyState_8 : decode cX4_copyState 8 = .ok (.iconst 0, 1) := by decide +kernel
theorem dX4_copyState_9 : decode cX4_copyState 9 = .ok (.istore_n 2, 1) := by decide +kernel
theorem dX4_copyState_10 : decode cX4_copyState 10 = .ok (.iload_n 2, 1) := by decide +kernel
theorem dX4_copyState_11 : decode cX4_copyState 11 = .ok (.aload_n 0, 1) := by decide +kernel
theorem dX4_copyState_12 : decode cX4_copyState 12 = .ok (.getfield 18, 3) := by decide +kernel
theorem dX4_copyState_15 : decode cX4_copyState 15 = .ok (.if_icmp .ge 24, 3) := by decide +kernel
theorem dX4_copyState_18 : decode cX4_copyState 18 = .ok (.aload_n 0, 1) := by decide +kernel
theorem dX4_copyState_19 : decode cX4_copyState 19 = .ok (.getfield 11, 3) := by decide +kernel
theorem dX4_copyState_22 : decode cX4_copyState 22 = .ok (.iload_n 2, 1) := by decide +kernel
theorem dX4_copyState_23 : decode cX4_copyState 23 = .ok (.aaload, 1) := by decide +kernel
theorem dX4_copyState_24 : decode cX4_copyState 24 = .ok (.aload_n 1, 1) := by decide +kernel
theorem dX4_copyState_25 : decode cX4_copyState 25 = .ok (.getfield 11, 3) := by decide +kernel
theorem dX4_copyState_28 : decode cX4_copyState 28 = .ok (.iload_n 2, 1) := by decide +kernel
theorem dX4_copyState_29 : decode cX4_copyState 29 = .ok (.aaload, 1) := by decide +kernel
theorem dX4_copyState_30 : decode cX4_copyState 30 = .ok (.invokevirtual 43, 3) := by decide +kernel
theorem dX4_copyState_33 : decode cX4_copyState 33 = .ok (.iinc 2 1, 3) := by decide +kernel
theorem dX4_copyState_36 : decode cX4_copyState 36 = .ok (.goto (-26), 3) := by decide +kernel
theorem dX4_copyState_39 : decode cX4_copyState 39 = .ok (.aload_n 1, 1) := by decide +kernel
theorem dX4_copyState_40 : decode cX4_copyState 40 = .ok (.getfield 22, 3) := by decide +kernel
theorem dX4_copyState_43 : decode cX4_copyState 43 = .ok (.iconst 0, 1) := by decide +kernel
theorem dX4_copyState_44 : decode cX4_copyState 44 = .ok (.aload_n 0, 1) := by decide +kernel
theorem dX4_copyState_45 : decode cX4_copyState 45 = .ok (.getfield 22, 3) := by decide +kernel
theorem dX4_copyState_48 : decode cX4_copyState 48 = .ok (.iconst 0, 1) := by decide +kernel
theorem dX4_copyState_49 : decode cX4_copyState 49 = .ok (.iconst 4, 1) := by decide +kernel
theorem dX4_copyState_50 : decode cX4_copyState 50 = .ok (.invokestatic 47, 3) := by decide +kernel
theorem dX4_copyState_53 : decode cX4_copyState 53 = .ok (.aload_n 1, 1) := by decide +kernel
theorem dX4_copyState_54 : decode cX4_copyState 54 = .ok (.getfield 26, 3) := by decide +kernel
theorem dX4_copyState_57 : decode cX4_copyState 57 = .ok (.iconst 0, 1) := by decide +kernel
theorem dX4_copyState_58 : decode cX4_copyState 58 = .ok (.aload_n 0, 1) := by decide +kernel
theorem dX4_copyState_59 : decode cX4_copyState 59 = .ok (.getfield 26, 3) := by decide +kernel
theorem dX4_copyState_62 : decode cX4_copyState 62 = .ok (.iconst 0, 1) := by decide +kernel
theorem dX4_copyState_63 : decode cX4_copyState 63 = .ok (.bipush 6, 2) := by decide +kernel
theorem dX4_copyState_65 : decode cX4_copyState 65 = .ok (.invokestatic 47, 3) := by decide +kernel
theorem dX4_copyState_68 : decode cX4_copyState 68 = .ok (.aload_n 1, 1) := by decide +kernel
theorem dX4_copyState_69 : decode cX4_copyState 69 = .ok (.getfield 30, 3) := by decide +kernel
theorem dX4_copyState_72 : decode cX4_copyState 72 = .ok (.iconst 0, 1) := by decide +kernel
theorem dX4_copyState_73 : decode cX4_copyState 73 = .ok (.aload_n 0, 1) := by decide +kernel
theorem dX4_copyState_74 : decode cX4_copyState 74 = .ok (.getfield 30, 3) := by decide +kernel
theorem dX4_copyState_77 : decode cX4_copyState 77 = .ok (.iconst 0, 1) := by decide +kernel
theorem dX4_copyState_78 : decode cX4_copyState 78 = .ok (.bipush 6, 2) := by decide +kernel
theorem dX4_copyState_80 : decode cX4_copyState 80 = .ok (.invokestatic 47, 3) := by decide +kernel
theorem dX4_copyState_83 : decode cX4_copyState 83 = .ok (.aload_n 1, 1) := by decide +kernel
theorem dX4_copyState_84 : decode cX4_copyState 84 = .ok (.getfield 33, 3) := by decide +kernel
theorem dX4_copyState_87 : decode cX4_copyState 87 = .ok (.iconst 0, 1) := by decide +kernel
theorem dX4_copyState_88 : decode cX4_copyState 88 = .ok (.aload_n 0, 1) := by decide +kernel
theorem dX4_copyState_89 : decode cX4_copyState 89 = .ok (.getfield 33, 3) := by decide +kernel
theorem dX4_copyState_92 : decode cX4_copyState 92 = .ok (.iconst 0, 1) := by decide +kernel
theorem dX4_copyState_93 : decode cX4_copyState 93 = .ok (.bipush 6, 2) := by decide +kernel
theorem dX4_copyState_95 : decode cX4_copyState 95 = .ok (.invokestatic 47, 3) := by decide +kernel
theorem dX4_copyState_98 : decode cX4_copyState 98 = .ok (.aload_n 1, 1) := by decide +kernel
theorem dX4_copyState_99 : decode cX4_copyState 99 = .ok (.getfield 40, 3) := by decide +kernel
theorem dX4_copyState_102 : decode cX4_copyState 102 = .ok (.iconst 0, 1) := by decide +kernel
theorem dX4_copyState_103 : decode cX4_copyState 103 = .ok (.aload_n 0, 1) := by decide +kernel
theorem dX4_copyState_104 : decode cX4_copyState 104 = .ok (.getfield 40, 3) := by decide +kernel
theorem dX4_copyState_107 : decode cX4_copyState 107 = .ok (.iconst 0, 1) := by decide +kernel
theorem dX4_copyState_108 : decode cX4_copyState 108 = .ok (.sipush 800, 3) := by decide +kernel
theorem dX4_copyState_111 : decode cX4_copyState 111 = .ok (.invokestatic 47, 3) := by decide +kernel
theorem dX4_copyState_114 : decode cX4_copyState 114 = .ok (.return_, 1) := by decide +kernel
theorem dX4_find_0 : decode cX4_find 0 = .ok (.iconst 0, 1) := by decide +kernel
theorem dX4_find_1 : decode cX4_find 1 = .ok (.istore_n 2, 1) := by decide +kernel
theorem dX4_find_2 : decode cX4_find 2 = .ok (.iload_n 2, 1) := by decide +kernel
theorem dX4_find_3 : decode cX4_find 3 = .ok (.aload_n 0, 1) := by decide +kernel
theorem dX4_find_4 : decode cX4_find 4 = .ok (.getfield 18, 3) := by decide +kernel
theorem dX4_find_7 : decode cX4_find 7 = .ok (.if_icmp .ge 29, 3) := by decide +kernel
theorem dX4_find_10 : decode cX4_find 10 = .ok (.aload_n 0, 1) := by decide +kernel
theorem dX4_find_11 : decode cX4_find 11 = .ok (.getfield 11, 3) := by decide +kernel
theorem dX4_find_14 : decode cX4_find 14 = .ok (.iload_n 2, 1) := by decide +kernel
theorem dX4_find_15 : decode cX4_find 15 = .ok (.aaload, 1) := by decide +kernel
theorem dX4_find_16 : decode cX4_find 16 = .ok (.getfield 53, 3) := by decide +kernel
theorem dX4_find_19 : decode cX4_find 19 = .ok (.iload_n 1, 1) := by decide +kernel
theorem dX4_find_20 : decode cX4_find 20 = .ok (.if_icmp .ne 10, 3) := by decide +kernel
theorem dX4_find_23 : decode cX4_find 23 = .ok (.aload_n 0, 1) := by decide +kernel
theorem dX4_find_24 : decode cX4_find 24 = .ok (.getfield 11, 3) := by decide +kernel
theorem dX4_find_27 : decode cX4_find 27 = .ok (.iload_n 2, 1) := by decide +kernel
theorem dX4_find_28 : decode cX4_find 28 = .ok (.aaload, 1) := by decide +kernel
theorem dX4_find_29 : decode cX4_find 29 = .ok (.areturn, 1) := by decide +kernel
theorem dX4_find_30 : decode cX4_find 30 = .ok (.iinc 2 1, 3) := by decide +kernel
theorem dX4_find_33 : decode cX4_find 33 = .ok (.goto (-31), 3) := by decide +kernel
theorem dX4_find_36 : decode cX4_find 36 = .ok (.aconst_null, 1) := by decide +kernel
theorem dX4_find_37 : decode cX4_find 37 = .ok (.areturn, 1) := by decide +kernel
theorem dX4_addRecord_0 : decode cX4_addRecord 0 = .ok (.aload_n 0, 1) := by decide +kernel
theorem dX4_addRecord_1 : decode cX4_addRecord 1 = .ok (.getfield 18, 3) := by decide +kernel
theorem dX4_addRecord_4 : decode cX4_addRecord 4 = .ok (.bipush 10, 2) := by decide +kernel
theorem dX4_addRecord_6 : decode cX4_addRecord 6 = .ok (.if_icmp .lt 4, 3) := by decide +kernel
theorem dX4_addRecord_9 : decode cX4_addRecord 9 = .ok (.return_, 1) := by decide +kernel
theorem dX4_addRecord_10 : decode cX4_addRecord 10 = .ok (.aload_n 0, 1) := by decide +kernel
theorem dX4_addRecord_11 : decode cX4_addRecord 11 = .ok (.getfield 11, 3) := by decide +kernel
theorem dX4_addRecord_14 : decode cX4_addRecord 14 = .ok (.aload_n 0, 1) := by decide +kernel
theorem dX4_addRecord_15 : decode cX4_addRecord 15 = .ok (.getfield 18, 3) := by decide +kernel
theorem dX4_addRecord_18 : decode cX4_addRecord 18 = .ok (.aaload, 1) := by decide +kernel
theorem dX4_addRecord_19 : decode cX4_addRecord 19 = .ok (.astore_n 2, 1) := by decide +kernel
theorem dX4_addRecord_20 : decode cX4_addRecord 20 = .ok (.aload_n 2, 1) := by decide +kernel
theorem dX4_addRecord_21 : decode cX4_addRecord 21 = .ok (.iload_n 1, 1) := by decide +kernel
theorem dX4_addRecord_22 : decode cX4_addRecord 22 = .ok (.invokevirtual 56, 3) := by decide +kernel
theorem dX4_addRecord_25 : decode cX4_addRecord 25 = .ok (.aload_n 0, 1) := by decide +kernel
theorem dX4_addRecord_26 : decode cX4_addRecord 26 = .ok (.getfield 18, 3) := by decide +kernel
theorem dX4_addRecord_29 : decode cX4_addRecord 29 = .ok (.istore_n 3, 1) := by decide +kernel
theorem dX4_addRecord_30 : decode cX4_addRecord 30 = .ok (.iload_n 3, 1) := by decide +kernel
theorem dX4_addRecord_31 : decode cX4_addRecord 31 = .ok (.ifCond .le 38, 3) := by decide +kernel
theorem dX4_addRecord_34 : decode cX4_addRecord 34 = .ok (.aload_n 0, 1) := by decide +kernel
theorem dX4_addRecord_35 : decode cX4_addRecord 35 = .ok (.getfield 11, 3) := by decide +kernel
theorem dX4_addRecord_38 : decode cX4_addRecord 38 = .ok (.iload_n 3, 1) := by decide +kernel
theorem dX4_addRecord_39 : decode cX4_addRecord 39 = .ok (.iconst 1, 1) := by decide +kernel
theorem dX4_addRecord_40 : decode cX4_addRecord 40 = .ok (.isub, 1) := by decide +kernel
theorem dX4_addRecord_41 : decode cX4_addRecord 41 = .ok (.aaload, 1) := by decide +kernel
theorem dX4_addRecord_42 : decode cX4_addRecord 42 = .ok (.getfield 53, 3) := by decide +kernel
theorem dX4_addRecord_45 : decode cX4_addRecord 45 = .ok (.iload_n 1, 1) := by decide +kernel
theorem dX4_addRecord_46 : decode cX4_addRecord 46 = .ok (.if_icmp .le 23, 3) := by decide +kernel
theorem dX4_addRecord_49 : decode cX4_addRecord 49 = .ok (.aload_n 0, 1) := by decide +kernel
theorem dX4_addRecord_50 : decode cX4_addRecord 50 = .ok (.getfield 11, 3) := by decide +kernel
theorem dX4_addRecord_53 : decode cX4_addRecord 53 = .ok (.iload_n 3, 1) := by decide +kernel
theorem dX4_addRecord_54 : decode cX4_addRecord 54 = .ok (.aload_n 0, 1) := by decide +kernel
theorem dX4_addRecord_55 : decode cX4_addRecord 55 = .ok (.getfield 11, 3) := by decide +kernel
theorem dX4_addRecord_58 : decode cX4_addRecord 58 = .ok (.iload_n 3, 1) := by decide +kernel
theorem dX4_addRecord_59 : decode cX4_addRecord 59 = .ok (.iconst 1, 1) := by decide +kernel
theorem dX4_addRecord_60 : decode cX4_addRecord 60 = .ok (.isub, 1) := by decide +kernel
theorem dX4_addRecord_61 : decode cX4_addRecord 61 = .ok (.aaload, 1) := by decide +kernel
theorem dX4_addRecord_62 : decode cX4_addRecord 62 = .ok (.aastore, 1) := by decide +kernel
theorem dX4_addRecord_63 : decode cX4_addRecord 63 = .ok (.iinc 3 (-1), 3) := by decide +kernel
theorem dX4_addRecord_66 : decode cX4_addRecord 66 = .ok (.goto (-36), 3) := by decide +kernel
theorem dX4_addRecord_69 : decode cX4_addRecord 69 = .ok (.aload_n 0, 1) := by decide +kernel
theorem dX4_addRecord_70 : decode cX4_addRecord 70 = .ok (.getfield 11, 3) := by decide +kernel
theorem dX4_addRecord_73 : decode cX4_addRecord 73 = .ok (.iload_n 3, 1) := by decide +kernel
theorem dX4_addRecord_74 : decode cX4_addRecord 74 = .ok (.aload_n 2, 1) := by decide +kernel
theorem dX4_addRecord_75 : decode cX4_addRecord 75 = .ok (.aastore, 1) := by decide +kernel
theorem dX4_addRecord_76 : decode cX4_addRecord 76 = .ok (.aload_n 0, 1) := by decide +kernel
theorem dX4_addRecord_77 : decode cX4_addRecord 77 = .ok (.dup, 1) := by decide +kernel
theorem dX4_addRecord_78 : decode cX4_addRecord 78 = .ok (.getfield 18, 3) := by decide +kernel
theorem dX4_addRecord_81 : decode cX4_addRecord 81 = .ok (.iconst 1, 1) := by decide +kernel
theorem dX4_addRecord_82 : decode cX4_addRecord 82 = .ok (.iadd, 1) := by decide +kernel
theorem dX4_addRecord_83 : decode cX4_addRecord 83 = .ok (.putfield 18, 3) := by decide +kernel
theorem dX4_addRecord_86 : decode cX4_addRecord 86 = .ok (.return_, 1) := by decide +kernel
theorem dX4_dropRecord_0 : decode cX4_dropRecord 0 = .ok (.iconst 0, 1) := by decide +kernel
theorem dX4_dropRecord_1 : decode cX4_dropRecord 1 = .ok (.istore_n 2, 1) := by decide +kernel
theorem dX4_dropRecord_2 : decode cX4_dropRecord 2 = .ok (.iload_n 2, 1) := by decide +kernel
theorem dX4_dropRecord_3 : decode cX4_dropRecord 3 = .ok (.aload_n 0, 1) := by decide +kernel
theorem dX4_dropRecord_4 : decode cX4_dropRecord 4 = .ok (.getfield 18, 3) := by decide +kernel
theorem dX4_dropRecord_7 : decode cX4_dropRecord 7 = .ok (.if_icmp .ge 86, 3) := by decide +kernel
theorem dX4_dropRecord_10 : decode cX4_dropRecord 10 = .ok (.aload_n 0, 1) := by decide +kernel
theorem dX4_dropRecord_11 : decode cX4_dropRecord 11 = .ok (.getfield 11, 3) := by decide +kernel
theorem dX4_dropRecord_14 : decode cX4_dropRecord 14 = .ok (.iload_n 2, 1) := by decide +kernel
theorem dX4_dropRecord_15 : decode cX4_dropRecord 15 = .ok (.aaload, 1) := by decide +kernel
theorem dX4_dropRecord_16 : decode cX4_dropRecord 16 = .ok (.getfield 53, 3) := by decide +kernel
theorem dX4_dropRecord_19 : decode cX4_dropRecord 19 = .ok (.iload_n 1, 1) := by decide +kernel
theorem dX4_dropRecord_20 : decode cX4_dropRecord 20 = .ok (.if_icmp .ne 67, 3) := by decide +kernel
theorem dX4_dropRecord_23 : decode cX4_dropRecord 23 = .ok (.aload_n 0, 1) := by decide +kernel
theorem dX4_dropRecord_24 : decode cX4_dropRecord 24 = .ok (.getfield 11, 3) := by decide +kernel
theorem dX4_dropRecord_27 : decode cX4_dropRecord 27 = .ok (.iload_n 2, 1) := by decide +kernel
theorem dX4_dropRecord_28 : decode cX4_dropRecord 28 = .ok (.aaload, 1) := by decide +kernel
theorem dX4_dropRecord_29 : decode cX4_dropRecord 29 = .ok (.astore_n 3, 1) := by decide +kernel
theorem dX4_dropRecord_30 : decode cX4_dropRecord 30 = .ok (.iload_n 2, 1) := by decide +kernel
theorem dX4_dropRecord_31 : decode cX4_dropRecord 31 = .ok (.iconst 1, 1) := by decide +kernel
theorem dX4_dropRecord_32 : decode cX4_dropRecord 32 = .ok (.iadd, 1) := by decide +kernel
theorem dX4_dropRecord_33 : decode cX4_dropRecord 33 = .ok (.istore 4, 2) := by decide +kernel
theorem dX4_dropRecord_35 : decode cX4_dropRecord 35 = .ok (.iload 4, 2) := by decide +kernel
theorem dX4_dropRecord_37 : decode cX4_dropRecord 37 = .ok (.aload_n 0, 1) := by decide +kernel
theorem dX4_dropRecord_38 : decode cX4_dropRecord 38 = .ok (.getfield 18, 3) := by decide +kernel
theorem dX4_dropRecord_41 : decode cX4_dropRecord 41 = .ok (.if_icmp .ge 25, 3) := by decide +kernel
theorem dX4_dropRecord_44 : decode cX4_dropRecord 44 = .ok (.aload_n 0, 1) := by decide +kernel
theorem dX4_dropRecord_45 : decode cX4_dropRecord 45 = .ok (.getfield 11, 3) := by decide +kernel
theorem dX4_dropRecord_48 : decode cX4_dropRecord 48 = .ok (.iload 4, 2) := by decide +kernel
theorem dX4_dropRecord_50 : decode cX4_dropRecord 50 = .ok (.iconst 1, 1) := by decide +kernel
theorem dX4_dropRecord_51 : decode cX4_dropRecord 51 = .ok (.isub, 1) := by decide +kernel
theorem dX4_dropRecord_52 : decode cX4_dropRecord 52 = .ok (.aload_n 0, 1) := by decide +kernel
theorem dX4_dropRecord_53 : decode cX4_dropRecord 53 = .ok (.getfield 11, 3) := by decide +kernel
theorem dX4_dropRecord_56 : decode cX4_dropRecord 56 = .ok (.iload 4, 2) := by decide +kernel
theorem dX4_dropRecord_58 : decode cX4_dropRecord 58 = .ok (.aaload, 1) := by decide +kernel
theorem dX4_dropRecord_59 : decode cX4_dropRecord 59 = .ok (.aastore, 1) := by decide +kernel
theorem dX4_dropRecord_60 : decode cX4_dropRecord 60 = .ok (.iinc 4 1, 3) := by decide +kernel
theorem dX4_dropRecord_63 : decode cX4_dropRecord 63 = .ok (.goto (-28), 3) := by decide +kernel
theorem dX4_dropRecord_66 : decode cX4_dropRecord 66 = .ok (.aload_n 0, 1) := by decide +kernel
theorem dX4_dropRecord_67 : decode cX4_dropRecord 67 = .ok (.dup, 1) := by decide +kernel
theorem dX4_dropRecord_68 : decode cX4_dropRecord 68 = .ok (.getfield 18, 3) := by decide +kernel
theorem dX4_dropRecord_71 : decode cX4_dropRecord 71 = .ok (.iconst 1, 1) := by decide +kernel
theorem dX4_dropRecord_72 : decode cX4_dropRecord 72 = .ok (.isub, 1) := by decide +kernel
theorem dX4_dropRecord_73 : decode cX4_dropRecord 73 = .ok (.putfield 18, 3) := by decide +kernel
theorem dX4_dropRecord_76 : decode cX4_dropRecord 76 = .ok (.aload_n 0, 1) := by decide +kernel
theorem dX4_dropRecord_77 : decode cX4_dropRecord 77 = .ok (.getfield 11, 3) := by decide +kernel
theorem dX4_dropRecord_80 : decode cX4_dropRecord 80 = .ok (.aload_n 0, 1) := by decide +kernel
theorem dX4_dropRecord_81 : decode cX4_dropRecord 81 = .ok (.getfield 18, 3) := by decide +kernel
theorem dX4_dropRecord_84 : decode cX4_dropRecord 84 = .ok (.aload_n 3, 1) := by decide +kernel
theorem dX4_dropRecord_85 : decode cX4_dropRecord 85 = .ok (.aastore, 1) := by decide +kernel
theorem dX4_dropRecord_86 : decode cX4_dropRecord 86 = .ok (.return_, 1) := by decide +kernel
theorem dX4_dropRecord_87 : decode cX4_dropRecord 87 = .ok (.iinc 2 1, 3) := by decide +kernel
theorem dX4_dropRecord_90 : decode cX4_dropRecord 90 = .ok (.goto (-88), 3) := by decide +kernel
theorem dX4_dropRecord_93 : decode cX4_dropRecord 93 = .ok (.return_, 1) := by decide +kernel
theorem dX4_lockCount_0 : decode cX4_lockCount 0 = .ok (.iconst 0, 1) := by decide +kernel
theorem dX4_lockCount_1 : decode cX4_lockCount 1 = .ok (.istore_n 2, 1) := by decide +kernel
theorem dX4_lockCount_2 : decode cX4_lockCount 2 = .ok (.iconst 0, 1) := by decide +kernel
theorem dX4_lockCount_3 : decode cX4_lockCount 3 = .ok (.istore_n 3, 1) := by decide +kernel
theorem dX4_lockCount_4 : decode cX4_lockCount 4 = .ok (.iload_n 3, 1) := by decide +kernel
theorem dX4_lockCount_5 : decode cX4_lockCount 5 = .ok (.aload_n 0, 1) := by decide +kernel
theorem dX4_lockCount_6 : decode cX4_lockCount 6 = .ok (.getfield 18, 3) := by decide +kernel
theorem dX4_lockCount_9 : decode cX4_lockCount 9 = .ok (.if_icmp .ge 25, 3) := by decide +kernel
theorem dX4_lockCount_12 : decode cX4_lockCount 12 = .ok (.aload_n 0, 1) := by decide +kernel
theorem dX4_lockCount_13 : decode cX4_lockCount 13 = .ok (.getfield 11, 3) := by decide +kernel
theorem dX4_lockCount_16 : decode cX4_lockCount 16 = .ok (.iload_n 3, 1) := by decide +kernel
theorem dX4_lockCount_17 : decode cX4_lockCount 17 = .ok (.aaload, 1) := by decide +kernel
theorem dX4_lockCount_18 : decode cX4_lockCount 18 = .ok (.getfield 60, 3) := by decide +kernel
theorem dX4_lockCount_21 : decode cX4_lockCount 21 = .ok (.iload_n 1, 1) := by decide +kernel
theorem dX4_lockCount_22 : decode cX4_lockCount 22 = .ok (.if_icmp .ne 6, 3) := by decide +kernel
theorem dX4_lockCount_25 : decode cX4_lockCount 25 = .ok (.iinc 2 1, 3) := by decide +kernel
theorem dX4_lockCount_28 : decode cX4_lockCount 28 = .ok (.iinc 3 1, 3) := by decide +kernel
theorem dX4_lockCount_31 : decode cX4_lockCount 31 = .ok (.goto (-27), 3) := by decide +kernel
theorem dX4_lockCount_34 : decode cX4_lockCount 34 = .ok (.iload_n 2, 1) := by decide +kernel
theorem dX4_lockCount_35 : decode cX4_lockCount 35 = .ok (.ireturn, 1) := by decide +kernel
theorem dX4_associatedCount_0 : decode cX4_associatedCount 0 = .ok (.iconst 0, 1) := by decide +kernel
theorem dX4_associatedCount_1 : decode cX4_associatedCount 1 = .ok (.istore_n 1, 1) := by decide +kernel
theorem dX4_associatedCount_2 : decode cX4_associatedCount 2 = .ok (.iconst 0, 1) := by decide +kernel
theorem dX4_associatedCount_3 : decode cX4_associatedCount 3 = .ok (.istore_n 2, 1) := by decide +kernel
theorem dX4_associatedCount_4 : decode cX4_associatedCount 4 = .ok (.iload_n 2, 1) := by decide +kernel
theorem dX4_associatedCount_5 : decode cX4_associatedCount 5 = .ok (.iconst 4, 1) := by decide +kernel
theorem dX4_associatedCount_6 : decode cX4_associatedCount 6 = .ok (.if_icmp .ge 21, 3) := by decide +kernel
theorem dX4_associatedCount_9 : decode cX4_associatedCount 9 = .ok (.aload_n 0, 1) := by decide +kernel
theorem dX4_associatedCount_10 : decode cX4_associatedCount 10 = .ok (.getfield 22, 3) := by decide +kernel
theorem dX4_associatedCount_13 : decode cX4_associatedCount 13 = .ok (.iload_n 2, 1) := by decide +kernel
theorem dX4_associatedCount_14 : decode cX4_associatedCount 14 = .ok (.baload, 1) := by decide +kernel
theorem dX4_associatedCount_15 : decode cX4_associatedCount 15 = .ok (.ifCond .eq 6, 3) := by decide +kernel
theorem dX4_associatedCount_18 : decode cX4_associatedCount 18 = .ok (.iinc 1 1, 3) := by decide +kernel
theorem dX4_associatedCount_21 : decode cX4_associatedCount 21 = .ok (.iinc 2 1, 3) := by decide +kernel
theorem dX4_associatedCount_24 : decode cX4_associatedCount 24 = .ok (.goto (-20), 3) := by decide +kernel
theorem dX4_associatedCount_27 : decode cX4_associatedCount 27 = .ok (.iload_n 1, 1) := by decide +kernel
theorem dX4_associatedCount_28 : decode cX4_associatedCount 28 = .ok (.ireturn, 1) := by decide +kernel
theorem dX4_lineCount_0 : decode cX4_lineCount 0 = .ok (.iconst 0, 1) := by decide +kernel
theorem dX4_lineCount_1 : decode cX4_lineCount 1 = .ok (.istore_n 2, 1) := by decide +kernel
theorem dX4_lineCount_2 : decode cX4_lineCount 2 = .ok (.iconst 0, 1) := by decide +kernel
theorem dX4_lineCount_3 : decode cX4_lineCount 3 = .ok (.istore_n 3, 1) := by decide +kernel
theorem dX4_lineCount_4 : decode cX4_lineCount 4 = .ok (.iload_n 3, 1) := by decide +kernel
theorem dX4_lineCount_5 : decode cX4_lineCount 5 = .ok (.iconst 4, 1) := by decide +kernel
theorem dX4_lineCount_6 : decode cX4_lineCount 6 = .ok (.if_icmp .ge 28, 3) := by decide +kernel
theorem dX4_lineCount_9 : decode cX4_lineCount 9 = .ok (.aload_n 0, 1) := by decide +kernel
theorem dX4_lineCount_10 : decode cX4_lineCount 10 = .ok (.getfield 22, 3) := by decide +kernel
theorem dX4_lineCount_13 : decode cX4_lineCount 13 = .ok (.iload_n 3, 1) := by decide +kernel
theorem dX4_lineCount_14 : decode cX4_lineCount 14 = .ok (.baload, 1) := by decide +kernel
theorem dX4_lineCount_15 : decode cX4_lineCount 15 = .ok (.ifCond .eq 13, 3) := by decide +kernel
theorem dX4_lineCount_18 : decode cX4_lineCount 18 = .ok (.iload_n 2, 1) := by decide +kernel
theorem dX4_lineCount_19 : decode cX4_lineCount 19 = .ok (.aload_n 1, 1) := by decide +kernel
theorem dX4_lineCount_20 : decode cX4_lineCount 20 = .ok (.iload_n 3, 1) := by decide +kernel
theorem dX4_lineCount_21 : decode cX4_lineCount 21 = .ok (.invokevirtual 63, 3) := by decide +kernel
theorem dX4_lineCount_24 : decode cX4_lineCount 24 = .ok (.invokestatic 67, 3) := by decide +kernel
theorem dX4_lineCount_27 : decode cX4_lineCount 27 = .ok (.istore_n 2, 1) := by decide +kernel
theorem dX4_lineCount_28 : decode cX4_lineCount 28 = .ok (.iinc 3 1, 3) := by decide +kernel
theorem dX4_lineCount_31 : decode cX4_lineCount 31 = .ok (.goto (-27), 3) := by decide +kernel
theorem dX4_lineCount_34 : decode cX4_lineCount 34 = .ok (.iload_n 2, 1) := by decide +kernel
theorem dX4_lineCount_35 : decode cX4_lineCount 35 = .ok (.ireturn, 1) := by decide +kernel
theorem dX4_setColumn_0 : decode cX4_setColumn 0 = .ok (.aload_n 0, 1) := by decide +kernel
theorem dX4_setColumn_1 : decode cX4_setColumn 1 = .ok (.getfield 26, 3) := by decide +kernel
theorem dX4_setColumn_4 : decode cX4_setColumn 4 = .ok (.iload_n 1, 1) := by decide +kernel
theorem dX4_setColumn_5 : decode cX4_setColumn 5 = .ok (.iload_n 2, 1) := by decide +kernel
theorem dX4_setColumn_6 : decode cX4_setColumn 6 = .ok (.iastore, 1) := by decide +kernel
theorem dX4_setColumn_7 : decode cX4_setColumn 7 = .ok (.aload_n 0, 1) := by decide +kernel
theorem dX4_setColumn_8 : decode cX4_setColumn 8 = .ok (.getfield 30, 3) := by decide +kernel
theorem dX4_setColumn_11 : decode cX4_setColumn 11 = .ok (.iload_n 1, 1) := by decide +kernel
theorem dX4_setColumn_12 : decode cX4_setColumn 12 = .ok (.iload_n 3, 1) := by decide +kernel
theorem dX4_setColumn_13 : decode cX4_setColumn 13 = .ok (.iastore, 1) := by decide +kernel
theorem dX4_setColumn_14 : decode cX4_setColumn 14 = .ok (.aload_n 0, 1) := by decide +kernel
theorem dX4_setColumn_15 : decode cX4_setColumn 15 = .ok (.getfield 33, 3) := by decide +kernel
theorem dX4_setColumn_18 : decode cX4_setColumn 18 = .ok (.iload_n 1, 1) := by decide +kernel
theorem dX4_setColumn_19 : decode cX4_setColumn 19 = .ok (.iload 4, 2) := by decide +kernel
theorem dX4_setColumn_21 : decode cX4_setColumn 21 = .ok (.iastore, 1) := by decide +kernel
theorem dX4_setColumn_22 : decode cX4_setColumn 22 = .ok (.return_, 1) := by decide +kernel
theorem dX4_gather_0 : decode cX4_gather 0 = .ok (.aload_n 3, 1) := by decide +kernel
theorem dX4_gather_1 : decode cX4_gather 1 = .ok (.iconst 0, 1) := by decide +kernel
theorem dX4_gather_2 : decode cX4_gather 2 = .ok (.putfield 73, 3) := by decide +kernel
theorem dX4_gather_5 : decode cX4_gather 5 = .ok (.aload_n 0, 1) := by decide +kernel
theorem dX4_gather_6 : decode cX4_gather 6 = .ok (.getfield 26, 3) := by decide +kernel
theorem dX4_gather_9 : decode cX4_gather 9 = .ok (.iload_n 2, 1) := by decide +kernel
theorem dX4_gather_10 : decode cX4_gather 10 = .ok (.iaload, 1) := by decide +kernel
theorem dX4_gather_11 : decode cX4_gather 11 = .ok (.tableswitch 88 0 3 #[29, 43, 60, 74], 29) := by decide +kernel
theorem dX4_gather_40 : decode cX4_gather 40 = .ok (.aload_n 1, 1) := by decide +kernel
theorem dX4_gather_41 : decode cX4_gather 41 = .ok (.aload_n 0, 1) := by decide +kernel
theorem dX4_gather_42 : decode cX4_gather 42 = .ok (.getfield 30, 3) := by decide +kernel
theorem dX4_gather_45 : decode cX4_gather 45 = .ok (.iload_n 2, 1) := by decide +kernel
theorem dX4_gather_46 : decode cX4_gather 46 = .ok (.iaload, 1) := by decide +kernel
theorem dX4_gather_47 : decode cX4_gather 47 = .ok (.aload_n 3, 1) := by decide +kernel
theorem dX4_gather_48 : decode cX4_gather 48 = .ok (.invokevirtual 78, 3) := by decide +kernel
theorem dX4_gather_51 : decode cX4_gather 51 = .ok (.goto 65, 3) := by decide +kernel
theorem dX4_gather_54 : decode cX4_gather 54 = .ok (.aload_n 3, 1) := by decide +kernel
theorem dX4_gather_55 : decode cX4_gather 55 = .ok (.aload_n 1, 1) := by decide +kernel
theorem dX4_gather_56 : decode cX4_gather 56 = .ok (.aload_n 0, 1) := by decide +kernel
theorem dX4_gather_57 : decode cX4_gather 57 = .ok (.getfield 30, 3) := by decide +kernel
theorem dX4_gather_60 : decode cX4_gather 60 = .ok (.iload_n 2, 1) := by decide +kernel
theorem dX4_gather_61 : decode cX4_gather 61 = .ok (.iaload, 1) := by decide +kernel
theorem dX4_gather_62 : decode cX4_gather 62 = .ok (.invokevirtual 63, 3) := by decide +kernel
theorem dX4_gather_65 : decode cX4_gather 65 = .ok (.invokevirtual 82, 3) := by decide +kernel
theorem dX4_gather_68 : decode cX4_gather 68 = .ok (.goto 48, 3) := by decide +kernel
theorem dX4_gather_71 : decode cX4_gather 71 = .ok (.aload_n 1, 1) := by decide +kernel
theorem dX4_gather_72 : decode cX4_gather 72 = .ok (.aload_n 0, 1) := by decide +kernel
theorem dX4_gather_73 : decode cX4_gather 73 = .ok (.getfield 30, 3) := by decide +kernel
theorem dX4_gather_76 : decode cX4_gather 76 = .ok (.iload_n 2, 1) := by decide +kernel
theorem dX4_gather_77 : decode cX4_gather 77 = .ok (.iaload, 1) := by decide +kernel
theorem dX4_gather_78 : decode cX4_gather 78 = .ok (.aload_n 3, 1) := by decide +kernel
theorem dX4_gather_79 : decode cX4_gather 79 = .ok (.invokevirtual 85, 3) := by decide +kernel
theorem dX4_gather_82 : decode cX4_gather 82 = .ok (.goto 34, 3) := by decide +kernel
theorem dX4_gather_85 : decode cX4_gather 85 = .ok (.aload_n 1, 1) := by decide +kernel
theorem dX4_gather_86 : decode cX4_gather 86 = .ok (.aload_n 0, 1) := by decide +kernel
theorem dX4_gather_87 : decode cX4_gather 87 = .ok (.getfield 30, 3) := by decide +kernel
theorem dX4_gather_90 : decode cX4_gather 90 = .ok (.iload_n 2, 1) := by decide +kernel
theorem dX4_gather_91 : decode cX4_gather 91 = .ok (.iaload, 1) := by decide +kernel
theorem dX4_gather_92 : decode cX4_gather 92 = .ok (.aload_n 3, 1) := by decide +kernel
theorem dX4_gather_93 : decode cX4_gather 93 = .ok (.invokevirtual 88, 3) := by decide +kernel
theorem dX4_gather_96 : decode cX4_gather 96 = .ok (.goto 20, 3) := by decide +kernel
theorem dX4_gather_99 : decode cX4_gather 99 = .ok (.aload_n 1, 1) := by decide +kernel
theorem dX4_gather_100 : decode cX4_gather 100 = .ok (.aload_n 0, 1) := by decide +kernel
theorem dX4_gather_101 : decode cX4_gather 101 = .ok (.getfield 30, 3) := by decide +kernel
theorem dX4_gather_104 : decode cX4_gather 104 = .ok (.iload_n 2, 1) := by decide +kernel
theorem dX4_gather_105 : decode cX4_gather 105 = .ok (.iaload, 1) := by decide +kernel
theorem dX4_gather_106 : decode cX4_gather 106 = .ok (.aload_n 0, 1) := by decide +kernel
theorem dX4_gather_107 : decode cX4_gather 107 = .ok (.getfield 33, 3) := by decide +kernel
theorem dX4_gather_110 : decode cX4_gather 110 = .ok (.iload_n 2, 1) := by decide +kernel
theorem dX4_gather_111 : decode cX4_gather 111 = .ok (.iaload, 1) := by decide +kernel
theorem dX4_gather_112 : decode cX4_gather 112 = .ok (.aload_n 3, 1) := by decide +kernel
theorem dX4_gather_113 : decode cX4_gather 113 = .ok (.invokevirtual 91, 3) := by decide +kernel
theorem dX4_gather_116 : decode cX4_gather 116 = .ok (.return_, 1) := by decide +kernel
theorem dX4_isListed_0 : decode cX4_isListed 0 = .ok (.aload_n 0, 1) := by decide +kernel
theorem dX4_isListed_1 : decode cX4_isListed 1 = .ok (.getfield 40, 3) := by decide +kernel
theorem dX4_isListed_4 : decode cX4_isListed 4 = .ok (.iload_n 1, 1) := by decide +kernel
theorem dX4_isListed_5 : decode cX4_isListed 5 = .ok (.bipush 100, 2) := by decide +kernel
theorem dX4_isListed_7 : decode cX4_isListed 7 = .ok (.imul, 1) := by decide +kernel
theorem dX4_isListed_8 : decode cX4_isListed 8 = .ok (.iload_n 2, 1) := by decide +kernel
theorem dX4_isListed_9 : decode cX4_isListed 9 = .ok (.iadd, 1) := by decide +kernel
theorem dX4_isListed_10 : decode cX4_isListed 10 = .ok (.baload, 1) := by decide +kernel
theorem dX4_isListed_11 : decode cX4_isListed 11 = .ok (.ireturn, 1) := by decide +kernel
theorem dX4_setListed_0 : decode cX4_setListed 0 = .ok (.aload_n 0, 1) := by decide +kernel
theorem dX4_setListed_1 : decode cX4_setListed 1 = .ok (.getfield 40, 3) := by decide +kernel
theorem dX4_setListed_4 : decode cX4_setListed 4 = .ok (.iload_n 1, 1) := by decide +kernel
theorem dX4_setListed_5 : decode cX4_setListed 5 = .ok (.bipush 100, 2) := by decide +kernel
theorem dX4_setListed_7 : decode cX4_setListed 7 = .ok (.imul, 1) := by decide +kernel
theorem dX4_setListed_8 : decode cX4_setListed 8 = .ok (.iload_n 2, 1) := by decide +kernel
theorem dX4_setListed_9 : decode cX4_setListed 9 = .ok (.iadd, 1) := by decide +kernel
theorem dX4_setListed_10 : decode cX4_setListed 10 = .ok (.iload_n 3, 1) := by decide +kernel
theorem dX4_setListed_11 : decode cX4_setListed 11 = .ok (.bastore, 1) := by decide +kernel
theorem dX4_setListed_12 : decode cX4_setListed 12 = .ok (.return_, 1) := by decide +kernel
theorem dX4_emptyList_0 : decode cX4_emptyList 0 = .ok (.iconst 0, 1) := by decide +kernel
theorem dX4_emptyList_1 : decode cX4_emptyList 1 = .ok (.istore_n 2, 1) := by decide +kernel
theorem dX4_emptyList_2 : decode cX4_emptyList 2 = .ok (.iload_n 2, 1) := by decide +kernel
theorem dX4_emptyList_3 : decode cX4_emptyList 3 = .ok (.bipush 100, 2) := by decide +kernel
theorem dX4_emptyList_5 : decode cX4_emptyList 5 = .ok (.if_icmp .ge 16, 3) := by decide +kernel
theorem dX4_emptyList_8 : decode cX4_emptyList 8 = .ok (.aload_n 0, 1) := by decide +kernel
theorem dX4_emptyList_9 : decode cX4_emptyList 9 = .ok (.iload_n 1, 1) := by decide +kernel
theorem dX4_emptyList_10 : decode cX4_emptyList 10 = .ok (.iload_n 2, 1) := by decide +kernel
theorem dX4_emptyList_11 : decode cX4_emptyList 11 = .ok (.iconst 0, 1) := by decide +kernel
theorem dX4_emptyList_12 : decode cX4_emptyList 12 = .ok (.invokevirtual 95, 3) := by decide +kernel
theorem dX4_emptyList_15 : decode cX4_emptyList 15 = .ok (.iinc 2 1, 3) := by decide +kernel
theorem dX4_emptyList_18 : decode cX4_emptyList 18 = .ok (.goto (-16), 3) := by decide +kernel
theorem dX4_emptyList_21 : decode cX4_emptyList 21 = .ok (.return_, 1) := by decide +kernel
theorem dX4_listedCount_0 : decode cX4_listedCount 0 = .ok (.iconst 0, 1) := by decide +kernel
theorem dX4_listedCount_1 : decode cX4_listedCount 1 = .ok (.istore_n 2, 1) := by decide +kernel
theorem dX4_listedCount_2 : decode cX4_listedCount 2 = .ok (.iconst 0, 1) := by decide +kernel
theorem dX4_listedCount_3 : decode cX4_listedCount 3 = .ok (.istore_n 3, 1) := by decide +kernel
theorem dX4_listedCount_4 : decode cX4_listedCount 4 = .ok (.iload_n 3, 1) := by decide +kernel
theorem dX4_listedCount_5 : decode cX4_listedCount 5 = .ok (.bipush 100, 2) := by decide +kernel
theorem dX4_listedCount_7 : decode cX4_listedCount 7 = .ok (.if_icmp .ge 21, 3) := by decide +kernel
theorem dX4_listedCount_10 : decode cX4_listedCount 10 = .ok (.aload_n 0, 1) := by decide +kernel
theorem dX4_listedCount_11 : decode cX4_listedCount 11 = .ok (.iload_n 1, 1) := by decide +kernel
theorem dX4_listedCount_12 : decode cX4_listedCount 12 = .ok (.iload_n 3, 1) := by decide +kernel
theorem dX4_listedCount_13 : decode cX4_listedCount 13 = .ok (.invokevirtual 99, 3) := by decide +kernel
theorem dX4_listedCount_16 : decode cX4_listedCount 16 = .ok (.ifCond .eq 6, 3) := by decide +kernel
theorem dX4_listedCount_19 : decode cX4_listedCount 19 = .ok (.iinc 2 1, 3) := by decide +kernel
theorem dX4_listedCount_22 : decode cX4_listedCount 22 = .ok (.iinc 3 1, 3) := by decide +kernel
theorem dX4_listedCount_25 : decode cX4_listedCount 25 = .ok (.goto (-21), 3) := by decide +kernel
theorem dX4_listedCount_28 : decode cX4_listedCount 28 = .ok (.iload_n 2, 1) := by decide +kernel
theorem dX4_listedCount_29 : decode cX4_listedCount 29 = .ok (.ireturn, 1) := by decide +kernel
end
section
theorem dX5_init_0 : decode cX5_init 0 = .ok (.aload_n 0, 1) := by decide +kernel
theorem dX5_init_1 : decode cX5_init 1 = .ok (.invokespecial 3, 3) := by decide +kernel
theorem dX5_init_4 : decode cX5_init 4 = .ok (.aload_n 0, 1) := by decide +kernel
theorem dX5_init_5 : decode cX5_init 5 = .ok (.new 9, 3) := by decide +kernel
theorem dX5_init_8 : decode cX5_init 8 = .ok (.dup, 1) := by decide +kernel
theorem dX5_init_9 : decode cX5_init 9 = .ok (.invokespecial 11, 3) := by decide +kernel
theorem dX5_init_12 : decode cX5_init 12 = .ok (.putfield 12, 3) := by decide +kernel
theorem dX5_init_15 : decode cX5_init 15 = .ok (.aload_n 0, 1) := by decide +kernel
theorem dX5_init_16 : decode cX5_init 16 = .ok (.iconst 0, 1) := by decide +kernel
theorem dX5_init_17 : decode cX5_init 17 = .ok (.putfield 18, 3) := by decide +kernel
theorem dX5_init_20 : decode cX5_init 20 = .ok (.aload_n 0, 1) := by decide +kernel
theorem dX5_init_21 : decode cX5_init 21 = .ok (.iconst 0, 1) := by decide +kernel
theorem dX5_init_22 : decode cX5_init 22 = .ok (.putfield 22, 3) := by decide +kernel
theorem dX5_init_25 : decode cX5_init 25 = .ok (.aload_n 0, 1) := by decide +kernel
theorem dX5_init_26 : decode cX5_init 26 = .ok (.iconst 0, 1) := by decide +kernel
theorem dX5_init_27 : decode cX5_init 27 = .ok (.putfield 25, 3) := by decide +kernel
theorem dX5_init_30 : decode cX5_init 30 = .ok (.aload_n 0, 1) := by decide +kernel
theorem dX5_init_31 : decode cX5_init 31 = .ok (.iconst 0, 1) := by decide +kernel
theorem dX5_init_32 : decode cX5_init 32 = .ok (.putfield 28, 3) := by decide +kernel
theorem dX5_init_35 : decode cX5_init 35 = .ok (.return_, 1) := by decide +kernel
theorem dX5_read_0 : decode cX5_read 0 = .ok (.aload_n 0, 1) := by decide +kernel
theorem dX5_read_1 : decode cX5_read 1 = .ok (.getfield 12, 3) := by decide +kernel
theorem dX5_read_4 : decode cX5_read 4 = .ok (.invokevirtual 32, 3) := by decide +kernel
theorem dX5_read_7 : decode cX5_read 7 = .ok (.aload_n 0, 1) := by decide +kernel
theorem dX5_read_8 : decode cX5_read 8 = .ok (.iconst 0, 1) := by decide +kernel
theorem dX5_read_9 : decode cX5_read 9 = .ok (.putfield 18, 3) := by decide +kernel
theorem dX5_read_12 : decode cX5_read 12 = .ok (.aload_n 0, 1) := by decide +kernel
theorem dX5_read_13 : decode cX5_read 13 = .ok (.iconst 0, 1) := by decide +kernel
theorem dX5_read_14 : decode cX5_read 14 = .ok (.putfield 22, 3) := by decide +kernel
theorem dX5_read_17 : decode cX5_read 17 = .ok (.iconst 0, 1) := by decide +kernel
theorem dX5_read_18 : decode cX5_read 18 = .ok (.istore_n 2, 1) := by decide +kernel
theorem dX5_read_19 : decode cX5_read 19 = .ok (.iload_n 2, 1) := by decide +kernel
theorem dX5_read_20 : decode cX5_read 20 = .ok (.aload_n 1, 1) := by decide +kernel
theorem dX5_read_21 : decode cX5_read 21 = .ok (.getfield 35, 3) := by decide +kernel
theorem dX5_read_24 : decode cX5_read 24 = .ok (.if_icmp .ge 23, 3) := by decide +kernel
theorem dX5_read_27 : decode cX5_read 27 = .ok (.aload_n 0, 1) := by decide +kernel
theorem dX5_read_28 : decode cX5_read 28 = .ok (.aload_n 1, 1) := by decide +kernel
theorem dX5_read_29 : decode cX5_read 29 = .ok (.iload_n 2, 1) := by decide +kernel
theorem dX5_read_30 : decode cX5_read 30 = .ok (.invokevirtual 40, 3) := by decide +kernel
theorem dX5_read_33 : decode cX5_read 33 = .ok (.invokevirtual 44, 3) := by decide +kernel
theorem dX5_read_36 : decode cX5_read 36 = .ok (.ifCond .ne 5, 3) := by decide +kernel
theorem dX5_read_39 : decode cX5_read 39 = .ok (.iload_n 2, 1) := by decide +kernel
theorem dX5_read_40 : decode cX5_read 40 = .ok (.ireturn, 1) := by decide +kernel
theorem dX5_read_41 : decode cX5_read 41 = .ok (.iinc 2 1, 3) := by decide +kernel
theorem dX5_read_44 : decode cX5_read 44 = .ok (.goto (-25), 3) := by decide +kernel
theorem dX5_read_47 : decode cX5_read 47 = .ok (.aload_n 0, 1) := by decide +kernel
theorem dX5_read_48 : decode cX5_read 48 = .ok (.invokevirtual 48, 3) := by decide +kernel
theorem dX5_read_51 : decode cX5_read 51 = .ok (.ifCond .eq 8, 3) := by decide +kernel
theorem dX5_read_54 : decode cX5_read 54 = .ok (.ldc 52, 2) := by decide +kernel
theorem dX5_read_56 : decode cX5_read 56 = .ok (.goto 7, 3) := by decide +kernel
theorem dX5_read_59 : decode cX5_read 59 = .ok (.aload_n 1, 1) := by decide +kernel
theorem dX5_read_60 : decode cX5_read 60 = .ok (.getfield 35, 3) := by decide +kernel
theorem dX5_read_63 : decode cX5_read 63 = .ok (.ireturn, 1) := by decide +kernel
theorem dX5_isComplete_0 : decode cX5_isComplete 0 = .ok (.aload_n 0, 1) := by decide +kernel
theorem dX5_isComplete_1 : decode cX5_isComplete 1 = .ok (.getfield 22, 3) := by decide +kernel
theorem dX5_isComplete_4 : decode cX5_isComplete 4 = .ok (.iconst 3, 1) := by decide +kernel
theorem dX5_isComplete_5 : decode cX5_isComplete 5 = .ok (.if_icmp .ne 14, 3) := by decide +kernel
theorem dX5_isComplete_8 : decode cX5_isComplete 8 = .ok (.aload_n 0, 1) := by decide +kernel
theorem dX5_isComplete_9 : decode cX5_isComplete 9 = .ok (.invokevirtual 53, 3) := by decide +kernel
theorem dX5_isComplete_12 : decode cX5_isComplete 12 = .ok (.ifCond .eq 7, 3) := by decide +kernel
theorem dX5_isComplete_15 : decode cX5_isComplete 15 = .ok (.iconst 1, 1) := by decide +kernel
theorem dX5_isComplete_16 : decode cX5_isComplete 16 = .ok (.goto 4, 3) := by decide +kernel
theorem dX5_isComplete_19 : decode cX5_isComplete 19 = .ok (.iconst 0, 1) := by decide +kernel
theorem dX5_isComplete_20 : decode cX5_isComplete 20 = .ok (.ireturn, 1) := by decide +kernel
theorem dX5_isNumberOver_0 : decode cX5_isNumberOver 0 = .ok (.aload_n 0, 1) := by decide +kernel
theorem dX5_isNumberOver_1 : decode cX5_isNumberOver 1 = .ok (.getfield 18, 3) := by decide +kernel
theorem dX5_isNumberOver_4 : decode cX5_isNumberOver 4 = .ok (.ifCond .eq 11, 3) := by decide +kernel
theorem dX5_isNumberOver_7 : decode cX5_isNumberOver 7 = .ok (.aload_n 0, 1) := by decide +kernel
theorem dX5_isNumberOver_8 : decode cX5_isNumberOver 8 = .ok (.getfield 18, 3) := by decide +kernel
theorem dX5_isNumberOver_11 : decode cX5_isNumberOver 11 = .ok (.iconst 3, 1) := by decide +kernel
theorem dX5_isNumberOver_12 : decode cX5_isNumberOver 12 = .ok (.if_icmp .ne 7, 3) := by decide +kernel
theorem dX5_isNumberOver_15 : decode cX5_isNumberOver 15 = .ok (.iconst 1, 1) := by decide +kernel
theorem dX5_isNumberOver_16 : decode cX5_isNumberOver 16 = .ok (.goto 4, 3) := by decide +kernel
theorem dX5_isNumberOver_19 : decode cX5_isNumberOver 19 = .ok (.iconst 0, 1) := by decide +kernel
theorem dX5_isNumberOver_20 : decode cX5_isNumberOver 20 = .ok (.ireturn, 1) := by decide +kernel
theorem dX5_takes_0 : decode cX5_takes 0 = .ok (.iload_n 1, 1) := by decide +kernel
theorem dX5_takes_1 : decode cX5_takes 1 = .ok (.bipush 48, 2) := by decide +kernel
theorem dX5_takes_3 : decode cX5_takes 3 = .ok (.if_icmp .lt 18, 3) := by decide +kernel
theorem dX5_takes_6 : decode cX5_takes 6 = .ok (.iload_n 1, 1) := by decide +kernel
theorem dX5_takes_7 : decode cX5_takes 7 = .ok (.bipush 57, 2) := by decide +kernel
theorem dX5_takes_9 : decode cX5_takes 9 = .ok (.if_icmp .gt 12, 3) := by decide +kernel
theorem dX5_takes_12 : decode cX5_takes 12 = .ok (.aload_n 0, 1) := by decide +kernel
theorem dX5_takes_13 : decode cX5_takes 13 = .ok (.iload_n 1, 1) := by decide +kernel
theorem dX5_takes_14 : decode cX5_takes 14 = .ok (.bipush 48, 2) := by decide +kernel
theorem dX5_takes_16 : decode cX5_takes 16 = .ok (.isub, 1) := by decide +kernel
theorem dX5_takes_17 : decode cX5_takes 17 = .ok (.invokevirtual 56, 3) := by decide +kernel
theorem dX5_takes_20 : decode cX5_takes 20 = .ok (.ireturn, 1) := by decide +kernel
theorem dX5_takes_21 : decode cX5_takes 21 = .ok (.iload_n 1, 1) := by decide +kernel
theorem dX5_takes_22 : decode cX5_takes 22 = .ok (.lookupswitch 62 #[(45, 42), (47, 47), (93, 52), (94, 57)], 42) := by decide +kernel
theorem dX5_takes_64 : decode cX5_takes 64 = .ok (.aload_n 0, 1) := by decide +kernel
theorem dX5_takes_65 : decode cX5_takes 65 = .ok (.invokevirtual 59, 3) := by decide +kernel
theorem dX5_takes_68 : decode cX5_takes 68 = .ok (.ireturn, 1) := by decide +kernel
theorem dX5_takes_69 : decode cX5_takes 69 = .ok (.aload_n 0, 1) := by decide +kernel
theorem dX5_takes_70 : decode cX5_takes 70 = .ok (.invokevirtual 62, 3) := by decide +kernel
theorem dX5_takes_73 : decode cX5_takes 73 = .ok (.ireturn, 1) := by decide +kernel
theorem dX5_takes_74 : decode cX5_takes 74 = .ok (.aload_n 0, 1) := by decide +kernel
theorem dX5_takes_75 : decode cX5_takes 75 = .ok (.invokevirtual 65, 3) := by decide +kernel
theorem dX5_takes_78 : decode cX5_takes 78 = .ok (.ireturn, 1) := by decide +kernel
theorem dX5_takes_79 : decode cX5_takes 79 = .ok (.aload_n 0, 1) := by decide +kernel
theorem dX5_takes_80 : decode cX5_takes 80 = .ok (.invokevirtual 68, 3) := by decide +kernel
theorem dX5_takes_83 : decode cX5_takes 83 = .ok (.ireturn, 1) := by decide +kernel
theorem dX5_takes_84 : decode cX5_takes 84 = .ok (.iconst 0, 1) := by decide +kernel
theorem dX5_takes_85 : decode cX5_takes 85 = .ok (.ireturn, 1) := by decide +kernel
theorem dX5_takesMinus_0 : decode cX5_takesMinus 0 = .ok (.aload_n 0, 1) := by decide +kernel
theorem dX5_takesMinus_1 : decode cX5_takesMinus 1 = .ok (.getfield 18, 3) := by decide +kernel
theorem dX5_takesMinus_4 : decode cX5_takesMinus 4 = .ok (.ifCond .eq 13, 3) := by decide +kernel
theorem dX5_takesMinus_7 : decode cX5_takesMinus 7 = .ok (.aload_n 0, 1) := by decide +kernel
theorem dX5_takesMinus_8 : decode cX5_takesMinus 8 = .ok (.getfield 18, 3) := by decide +kernel
theorem dX5_takesMinus_11 : decode cX5_takesMinus 11 = .ok (.iconst 1, 1) := by decide +kernel
theorem dX5_takesMinus_12 : decode cX5_takesMinus 12 = .ok (.if_icmp .eq 5, 3) := by decide +kernel
theorem dX5_takesMinus_15 : decode cX5_takesMinus 15 = .ok (.iconst 0, 1) := by decide +kernel
theorem dX5_takesMinus_16 : decode cX5_takesMinus 16 = .ok (.ireturn, 1) := by decide +kernel
theorem dX5_takesMinus_17 : decode cX5_takesMinus 17 = .ok (.aload_n 0, 1) := by decide +kernel
theorem dX5_takesMinus_18 : decode cX5_takesMinus 18 = .ok (.invokevirtual 71, 3) := by decide +kernel
theorem dX5_takesMinus_21 : decode cX5_takesMinus 21 = .ok (.aload_n 0, 1) := by decide +kernel
theorem dX5_takesMinus_22 : decode cX5_takesMinus 22 = .ok (.iconst 1, 1) := by decide +kernel
theorem dX5_takesMinus_23 : decode cX5_takesMinus 23 = .ok (.putfield 28, 3) := by decide +kernel
theorem dX5_takesMinus_26 : decode cX5_takesMinus 26 = .ok (.aload_n 0, 1) := by decide +kernel
theorem dX5_takesMinus_27 : decode cX5_takesMinus 27 = .ok (.iconst 2, 1) := by decide +kernel
theorem dX5_takesMinus_28 : decode cX5_takesMinus 28 = .ok (.putfield 18, 3) := by decide +kernel
theorem dX5_takesMinus_31 : decode cX5_takesMinus 31 = .ok (.iconst 1, 1) := by decide +kernel
theorem dX5_takesMinus_32 : decode cX5_takesMinus 32 = .ok (.ireturn, 1) := by decide +kernel
theorem dX5_takesDigit_0 : decode cX5_takesDigit 0 = .ok (.aload_n 0, 1) := by decide +kernel
theorem dX5_takesDigit_1 : decode cX5_takesDigit 1 = .ok (.getfield 18, 3) := by decide +kernel
theorem dX5_takesDigit_4 : decode cX5_takesDigit 4 = .ok (.iconst 2, 1) := by decide +kernel
theorem dX5_takesDigit_5 : decode cX5_takesDigit 5 = .ok (.if_icmp .ne 9, 3) := by decide +kernel
theorem dX5_takesDigit_8 : decode cX5_takesDigit 8 = .ok (.iload_n 1, 1) := by decide +kernel
theorem dX5_takesDigit_9 : decode cX5_takesDigit 9 = .ok (.ifCond .ne 38, 3) := by decide +kernel
theorem dX5_takesDigit_12 : decode cX5_takesDigit 12 = .ok (.iconst 0, 1) := by decide +kernel
theorem dX5_takesDigit_13 : decode cX5_takesDigit 13 = .ok (.ireturn, 1) := by decide +kernel
theorem dX5_takesDigit_14 : decode cX5_takesDigit 14 = .ok (.aload_n 0, 1) := by decide +kernel
theorem dX5_takesDigit_15 : decode cX5_takesDigit 15 = .ok (.getfield 18, 3) := by decide +kernel
theorem dX5_takesDigit_18 : decode cX5_takesDigit 18 = .ok (.iconst 3, 1) := by decide +kernel
theorem dX5_takesDigit_19 : decode cX5_takesDigit 19 = .ok (.if_icmp .ne 24, 3) := by decide +kernel
theorem dX5_takesDigit_22 : decode cX5_takesDigit 22 = .ok (.aload_n 0, 1) := by decide +kernel
theorem dX5_takesDigit_23 : decode cX5_takesDigit 23 = .ok (.getfield 25, 3) := by decide +kernel
theorem dX5_takesDigit_26 : decode cX5_takesDigit 26 = .ok (.ifCond .eq 15, 3) := by decide +kernel
theorem dX5_takesDigit_29 : decode cX5_takesDigit 29 = .ok (.aload_n 0, 1) := by decide +kernel
theorem dX5_takesDigit_30 : decode cX5_takesDigit 30 = .ok (.getfield 25, 3) := by decide +kernel
theorem dX5_takesDigit_33 : decode cX5_takesDigit 33 = .ok (.invokestatic 74, 3) := by decide +kernel
theorem dX5_takesDigit_36 : decode cX5_takesDigit 36 = .ok (.bipush 100, 2) := by decide +kernel
theorem dX5_takesDigit_38 : decode cX5_takesDigit 38 = .ok (.if_icmp .lt 9, 3) := by decide +kernel
theorem dX5_takesDigit_41 : decode cX5_takesDigit 41 = .ok (.iconst 0, 1) := by decide +kernel
theorem dX5_takesDigit_42 : decode cX5_takesDigit 42 = .ok (.ireturn, 1) := by decide +kernel
theorem dX5_takesDigit_43 : decode cX5_takesDigit 43 = .ok (.aload_n 0, 1) := by decide +kernel
theorem dX5_takesDigit_44 : decode cX5_takesDigit 44 = .ok (.invokevirtual 71, 3) := by decide +kernel
theorem dX5_takesDigit_47 : decode cX5_takesDigit 47 = .ok (.aload_n 0, 1) := by decide +kernel
theorem dX5_takesDigit_48 : decode cX5_takesDigit 48 = .ok (.aload_n 0, 1) := by decide +kernel
theorem dX5_takesDigit_49 : decode cX5_takesDigit 49 = .ok (.getfield 25, 3) := by decide +kernel
theorem dX5_takesDigit_52 : decode cX5_takesDigit 52 = .ok (.bipush 10, 2) := by decide +kernel
theorem dX5_takesDigit_54 : decode cX5_takesDigit 54 = .ok (.imul, 1) := by decide +kernel
theorem dX5_takesDigit_55 : decode cX5_takesDigit 55 = .ok (.aload_n 0, 1) := by decide +kernel
theorem dX5_takesDigit_56 : decode cX5_takesDigit 56 = .ok (.getfield 28, 3) := by decide +kernel
theorem dX5_takesDigit_59 : decode cX5_takesDigit 59 = .ok (.ifCond .eq 8, 3) := by decide +kernel
theorem dX5_takesDigit_62 : decode cX5_takesDigit 62 = .ok (.iload_n 1, 1) := by decide +kernel
theorem dX5_takesDigit_63 : decode cX5_takesDigit 63 = .ok (.ineg, 1) := by decide +kernel
theorem dX5_takesDigit_64 : decode cX5_takesDigit 64 = .ok (.goto 4, 3) := by decide +kernel
theorem dX5_takesDigit_67 : decode cX5_takesDigit 67 = .ok (.iload_n 1, 1) := by decide +kernel
theorem dX5_takesDigit_68 : decode cX5_takesDigit 68 = .ok (.iadd, 1) := by decide +kernel
theorem dX5_takesDigit_69 : decode cX5_takesDigit 69 = .ok (.putfield 25, 3) := by decide +kernel
theorem dX5_takesDigit_72 : decode cX5_takesDigit 72 = .ok (.aload_n 0, 1) := by decide +kernel
theorem dX5_takesDigit_73 : decode cX5_takesDigit 73 = .ok (.iconst 3, 1) := by decide +kernel
theorem dX5_takesDigit_74 : decode cX5_takesDigit 74 = .ok (.putfield 18, 3) := by decide +kernel
theorem dX5_takesDigit_77 : decode cX5_takesDigit 77 = .ok (.aload_n 0, 1) := by decide +kernel
theorem dX5_takesDigit_78 : decode cX5_takesDigit 78 = .ok (.getfield 12, 3) := by decide +kernel
theorem dX5_takesDigit_81 : decode cX5_takesDigit 81 = .ok (.aload_n 0, 1) := by decide +kernel
theorem dX5_takesDigit_82 : decode cX5_takesDigit 82 = .ok (.getfield 22, 3) := by decide +kernel
theorem dX5_takesDigit_85 : decode cX5_takesDigit 85 = .ok (.aload_n 0, 1) := by decide +kernel
theorem dX5_takesDigit_86 : decode cX5_takesDigit 86 = .ok (.invokevirtual 79, 3) := by decide +kernel
theorem dX5_takesDigit_89 : decode cX5_takesDigit 89 = .ok (.aload_n 0, 1) := by decide +kernel
theorem dX5_takesDigit_90 : decode cX5_takesDigit 90 = .ok (.invokevirtual 83, 3) := by decide +kernel
theorem dX5_takesDigit_93 : decode cX5_takesDigit 93 = .ok (.aload_n 0, 1) := by decide +kernel
theorem dX5_takesDigit_94 : decode cX5_takesDigit 94 = .ok (.getfield 25, 3) := by decide +kernel
theorem dX5_takesDigit_97 : decode cX5_takesDigit 97 = .ok (.invokevirtual 86, 3) := by decide +kernel
theorem dX5_takesDigit_100 : decode cX5_takesDigit 100 = .ok (.iconst 1, 1) := by decide +kernel
theorem dX5_takesDigit_101 : decode cX5_takesDigit 101 = .ok (.ireturn, 1) := by decide +kernel
theorem dX5_beginNumber_0 : decode cX5_beginNumber 0 = .ok (.aload_n 0, 1) := by decide +kernel
theorem dX5_beginNumber_1 : decode cX5_beginNumber 1 = .ok (.getfield 18, 3) := by decide +kernel
theorem dX5_beginNumber_4 : decode cX5_beginNumber 4 = .ok (.ifCond .ne 16, 3) := by decide +kernel
theorem dX5_beginNumber_7 : decode cX5_beginNumber 7 = .ok (.aload_n 0, 1) := by decide +kernel
theorem dX5_beginNumber_8 : decode cX5_beginNumber 8 = .ok (.getfield 12, 3) := by decide +kernel
theorem dX5_beginNumber_11 : decode cX5_beginNumber 11 = .ok (.aload_n 0, 1) := by decide +kernel
theorem dX5_beginNumber_12 : decode cX5_beginNumber 12 = .ok (.getfield 22, 3) := by decide +kernel
theorem dX5_beginNumber_15 : decode cX5_beginNumber 15 = .ok (.iconst 0, 1) := by decide +kernel
theorem dX5_beginNumber_16 : decode cX5_beginNumber 16 = .ok (.iconst 0, 1) := by decide +kernel
theorem dX5_beginNumber_17 : decode cX5_beginNumber 17 = .ok (.invokevirtual 90, 3) := by decide +kernel
theorem dX5_beginNumber_20 : decode cX5_beginNumber 20 = .ok (.aload_n 0, 1) := by decide +kernel
theorem dX5_beginNumber_21 : decode cX5_beginNumber 21 = .ok (.iconst 0, 1) := by decide +kernel
theorem dX5_beginNumber_22 : decode cX5_beginNumber 22 = .ok (.putfield 25, 3) := by decide +kernel
theorem dX5_beginNumber_25 : decode cX5_beginNumber 25 = .ok (.aload_n 0, 1) := by decide +kernel
theorem dX5_beginNumber_26 : decode cX5_beginNumber 26 = .ok (.iconst 0, 1) := by decide +kernel
theorem dX5_beginNumber_27 : decode cX5_beginNumber 27 = .ok (.putfield 28, 3) := by decide +kernel
theorem dX5_beginNumber_30 : decode cX5_beginNumber 30 = .ok (.return_, 1) := by decide +kernel
theorem dX5_takesSlash_0 : decode cX5_takesSlash 0 = .ok (.aload_n 0, 1) := by decide +kernel
theorem dX5_takesSlash_1 : decode cX5_takesSlash 1 = .ok (.getfield 18, 3) := by decide +kernel
theorem dX5_takesSlash_4 : decode cX5_takesSlash 4 = .ok (.iconst 3, 1) := by decide +kernel
theorem dX5_takesSlash_5 : decode cX5_takesSlash 5 = .ok (.if_icmp .ne 11, 3) := by decide +kernel
theorem dX5_takesSlash_8 : decode cX5_takesSlash 8 = .ok (.aload_n 0, 1) := by decide +kernel
theorem dX5_takesSlash_9 : decode cX5_takesSlash 9 = .ok (.invokevirtual 83, 3) := by decide +kernel
theorem dX5_takesSlash_12 : decode cX5_takesSlash 12 = .ok (.iconst 3, 1) := by decide +kernel
theorem dX5_takesSlash_13 : decode cX5_takesSlash 13 = .ok (.if_icmp .lt 5, 3) := by decide +kernel
theorem dX5_takesSlash_16 : decode cX5_takesSlash 16 = .ok (.iconst 0, 1) := by decide +kernel
theorem dX5_takesSlash_17 : decode cX5_takesSlash 17 = .ok (.ireturn, 1) := by decide +kernel
theorem dX5_takesSlash_18 : decode cX5_takesSlash 18 = .ok (.aload_n 0, 1) := by decide +kernel
theorem dX5_takesSlash_19 : decode cX5_takesSlash 19 = .ok (.getfield 12, 3) := by decide +kernel
theorem dX5_takesSlash_22 : decode cX5_takesSlash 22 = .ok (.aload_n 0, 1) := by decide +kernel
theorem dX5_takesSlash_23 : decode cX5_takesSlash 23 = .ok (.getfield 22, 3) := by decide +kernel
theorem dX5_takesSlash_26 : decode cX5_takesSlash 26 = .ok (.aload_n 0, 1) := by decide +kernel
theorem dX5_takesSlash_27 : decode cX5_takesSlash 27 = .ok (.invokevirtual 79, 3) := by decide +kernel
theorem dX5_takesSlash_30 : decode cX5_takesSlash 30 = .ok (.aload_n 0, 1) := by decide +kernel
theorem dX5_takesSlash_31 : decode cX5_takesSlash 31 = .ok (.invokevirtual 83, 3) := by decide +kernel
theorem dX5_takesSlash_34 : decode cX5_takesSlash 34 = .ok (.iconst 1, 1) := by decide +kernel
theorem dX5_takesSlash_35 : decode cX5_takesSlash 35 = .ok (.iadd, 1) := by decide +kernel
theorem dX5_takesSlash_36 : decode cX5_takesSlash 36 = .ok (.iconst 0, 1) := by decide +kernel
theorem dX5_takesSlash_37 : decode cX5_takesSlash 37 = .ok (.invokevirtual 94, 3) := by decide +kernel
theorem dX5_takesSlash_40 : decode cX5_takesSlash 40 = .ok (.aload_n 0, 1) := by decide +kernel
theorem dX5_takesSlash_41 : decode cX5_takesSlash 41 = .ok (.iconst 1, 1) := by decide +kernel
theorem dX5_takesSlash_42 : decode cX5_takesSlash 42 = .ok (.putfield 18, 3) := by decide +kernel
theorem dX5_takesSlash_45 : decode cX5_takesSlash 45 = .ok (.iconst 1, 1) := by decide +kernel
theorem dX5_takesSlash_46 : decode cX5_takesSlash 46 = .ok (.ireturn, 1) := by decide +kernel
theorem dX5_takesBracket_0 : decode cX5_takesBracket 0 = .ok (.aload_n 0, 1) := by decide +kernel
theorem dX5_takesBracket_1 : decode cX5_takesBracket 1 = .ok (.getfield 18, 3) := by decide +kernel
theorem dX5_takesBracket_4 : decode cX5_takesBracket 4 = .ok (.iconst 3, 1) := by decide +kernel
theorem dX5_takesBracket_5 : decode cX5_takesBracket 5 = .ok (.if_icmp .ne 11, 3) := by decide +kernel
theorem dX5_takesBracket_8 : decode cX5_takesBracket 8 = .ok (.aload_n 0, 1) := by decide +kernel
theorem dX5_takesBracket_9 : decode cX5_takesBracket 9 = .ok (.invokevirtual 79, 3) := by decide +kernel
theorem dX5_takesBracket_12 : decode cX5_takesBracket 12 = .ok (.iconst 4, 1) := by decide +kernel
theorem dX5_takesBracket_13 : decode cX5_takesBracket 13 = .ok (.if_icmp .lt 5, 3) := by decide +kernel
theorem dX5_takesBracket_16 : decode cX5_takesBracket 16 = .ok (.iconst 0, 1) := by decide +kernel
theorem dX5_takesBracket_17 : decode cX5_takesBracket 17 = .ok (.ireturn, 1) := by decide +kernel
theorem dX5_takesBracket_18 : decode cX5_takesBracket 18 = .ok (.aload_n 0, 1) := by decide +kernel
theorem dX5_takesBracket_19 : decode cX5_takesBracket 19 = .ok (.getfield 12, 3) := by decide +kernel
theorem dX5_takesBracket_22 : decode cX5_takesBracket 22 = .ok (.aload_n 0, 1) := by decide +kernel
theorem dX5_takesBracket_23 : decode cX5_takesBracket 23 = .ok (.getfield 22, 3) := by decide +kernel
theorem dX5_takesBracket_26 : decode cX5_takesBracket 26 = .ok (.aload_n 0, 1) := by decide +kernel
theorem dX5_takesBracket_27 : decode cX5_takesBracket 27 = .ok (.invokevirtual 79, 3) := by decide +kernel
theorem dX5_takesBracket_30 : decode cX5_takesBracket 30 = .ok (.iconst 1, 1) := by decide +kernel
theorem dX5_takesBracket_31 : decode cX5_takesBracket 31 = .ok (.iadd, 1) := by decide +kernel
theorem dX5_takesBracket_32 : decode cX5_takesBracket 32 = .ok (.iconst 0, 1) := by decide +kernel
theorem dX5_takesBracket_33 : decode cX5_takesBracket 33 = .ok (.invokevirtual 90, 3) := by decide +kernel
theorem dX5_takesBracket_36 : decode cX5_takesBracket 36 = .ok (.aload_n 0, 1) := by decide +kernel
theorem dX5_takesBracket_37 : decode cX5_takesBracket 37 = .ok (.iconst 1, 1) := by decide +kernel
theorem dX5_takesBracket_38 : decode cX5_takesBracket 38 = .ok (.putfield 18, 3) := by decide +kernel
theorem dX5_takesBracket_41 : decode cX5_takesBracket 41 = .ok (.iconst 1, 1) := by decide +kernel
theorem dX5_takesBracket_42 : decode cX5_takesBracket 42 = .ok (.ireturn, 1) := by decide +kernel
theorem dX5_takesCaret_0 : decode cX5_takesCaret 0 = .ok (.aload_n 0, 1) := by decide +kernel
theorem dX5_takesCaret_1 : decode cX5_takesCaret 1 = .ok (.invokevirtual 53, 3) := by decide +kernel
theorem dX5_takesCaret_4 : decode cX5_takesCaret 4 = .ok (.ifCond .eq 11, 3) := by decide +kernel
theorem dX5_takesCaret_7 : decode cX5_takesCaret 7 = .ok (.aload_n 0, 1) := by decide +kernel
theorem dX5_takesCaret_8 : decode cX5_takesCaret 8 = .ok (.getfield 22, 3) := by decide +kernel
theorem dX5_takesCaret_11 : decode cX5_takesCaret 11 = .ok (.iconst 3, 1) := by decide +kernel
theorem dX5_takesCaret_12 : decode cX5_takesCaret 12 = .ok (.if_icmp .lt 5, 3) := by decide +kernel
theorem dX5_takesCaret_15 : decode cX5_takesCaret 15 = .ok (.iconst 0, 1) := by decide +kernel
theorem dX5_takesCaret_16 : decode cX5_takesCaret 16 = .ok (.ireturn, 1) := by decide +kernel
theorem dX5_takesCaret_17 : decode cX5_takesCaret 17 = .ok (.aload_n 0, 1) := by decide +kernel
theorem dX5_takesCaret_18 : decode cX5_takesCaret 18 = .ok (.dup, 1) := by decide +kernel
theorem dX5_takesCaret_19 : decode cX5_takesCaret 19 = .ok (.getfield 22, 3) := by decide +kernel
theorem dX5_takesCaret_22 : decode cX5_takesCaret 22 = .ok (.iconst 1, 1) := by decide +kernel
theorem dX5_takesCaret_23 : decode cX5_takesCaret 23 = .ok (.iadd, 1) := by decide +kernel
theorem dX5_takesCaret_24 : decode cX5_takesCaret 24 = .ok (.putfield 22, 3) := by decide +kernel
theorem dX5_takesCaret_27 : decode cX5_takesCaret 27 = .ok (.aload_n 0, 1) := by decide +kernel
theorem dX5_takesCaret_28 : decode cX5_takesCaret 28 = .ok (.iconst 0, 1) := by decide +kernel
theorem dX5_takesCaret_29 : decode cX5_takesCaret 29 = .ok (.putfield 18, 3) := by decide +kernel
theorem dX5_takesCaret_32 : decode cX5_takesCaret 32 = .ok (.iconst 1, 1) := by decide +kernel
theorem dX5_takesCaret_33 : decode cX5_takesCaret 33 = .ok (.ireturn, 1) := by decide +kernel
theorem dX5_lastValue_0 : decode cX5_lastValue 0 = .ok (.aload_n 0, 1) := by decide +kernel
theorem dX5_lastValue_1 : decode cX5_lastValue 1 = .ok (.getfield 12, 3) := by decide +kernel
theorem dX5_lastValue_4 : decode cX5_lastValue 4 = .ok (.aload_n 0, 1) := by decide +kernel
theorem dX5_lastValue_5 : decode cX5_lastValue 5 = .ok (.getfield 22, 3) := by decide +kernel
theorem dX5_lastValue_8 : decode cX5_lastValue 8 = .ok (.invokevirtual 97, 3) := by decide +kernel
theorem dX5_lastValue_11 : decode cX5_lastValue 11 = .ok (.iconst 1, 1) := by decide +kernel
theorem dX5_lastValue_12 : decode cX5_lastValue 12 = .ok (.isub, 1) := by decide +kernel
theorem dX5_lastValue_13 : decode cX5_lastValue 13 = .ok (.ireturn, 1) := by decide +kernel
theorem dX5_lastSub_0 : decode cX5_lastSub 0 = .ok (.aload_n 0, 1) := by decide +kernel
theorem dX5_lastSub_1 : decode cX5_lastSub 1 = .ok (.getfield 12, 3) := by decide +kernel
theorem dX5_lastSub_4 : decode cX5_lastSub 4 = .ok (.aload_n 0, 1) := by decide +kernel
theorem dX5_lastSub_5 : decode cX5_lastSub 5 = .ok (.getfield 22, 3) := by decide +kernel
theorem dX5_lastSub_8 : decode cX5_lastSub 8 = .ok (.aload_n 0, 1) := by decide +kernel
theorem dX5_lastSub_9 : decode cX5_lastSub 9 = .ok (.invokevirtual 79, 3) := by decide +kernel
theorem dX5_lastSub_12 : decode cX5_lastSub 12 = .ok (.invokevirtual 100, 3) := by decide +kernel
theorem dX5_lastSub_15 : decode cX5_lastSub 15 = .ok (.iconst 1, 1) := by decide +kernel
theorem dX5_lastSub_16 : decode cX5_lastSub 16 = .ok (.isub, 1) := by decide +kernel
theorem dX5_lastSub_17 : decode cX5_lastSub 17 = .ok (.ireturn, 1) := by decide +kernel
end
section
theorem dX6_init_0 : decode cX6_init 0 = .ok (.aload_n 0, 1) := by decide +kernel
theorem dX6_init_1 : decode cX6_init 1 = .ok (.invokespecial 3, 3) := by decide +kernel
theorem dX6_init_4 : decode cX6_init 4 = .ok (.aload_n 0, 1) := by decide +kernel
theorem dX6_init_5 : decode cX6_init 5 = .ok (.new 9, 3) := by decide +kernel
theorem dX6_init_8 : decode cX6_init 8 = .ok (.dup, 1) := by decide +kernel
theorem dX6_init_9 : decode cX6_init 9 = .ok (.invokespecial 11, 3) := by decide +kernel
theorem dX6_init_12 : decode cX6_init 12 = .ok (.putfield 12, 3) := by decide +kernel
theorem dX6_init_15 : decode cX6_init 15 = .ok (.aload_n 0, 1) := by decide +kernel
theorem dX6_init_16 : decode cX6_init 16 = .ok (.iconst 4, 1) := by decide +kernel
theorem dX6_init_17 : decode cX6_init 17 = .ok (.anewarray 9, 3) := by decide +kernel
theorem dX6_init_20 : decode cX6_init 20 = .ok (.putfield 16, 3) := by decide +kernel
theorem dX6_init_23 : decode cX6_init 23 = .ok (.iconst 0, 1) := by decide +kernel
theorem dX6_init_24 : decode cX6_init 24 = .ok (.istore_n 1, 1) := by decide +kernel
theorem dX6_init_25 : decode cX6_init 25 = .ok (.iload_n 1, 1) := by decide +kernel
theorem dX6_init_26 : decode cX6_init 26 = .ok (.iconst 4, 1) := by decide +kernel
theorem dX6_init_27 : decode cX6_init 27 = .ok (.if_icmp .ge 22, 3) := by decide +kernel
theorem dX6_init_30 : decode cX6_init 30 = .ok (.aload_n 0, 1) := by decide +kernel
theorem dX6_init_31 : decode cX6_init 31 = .ok (.getfield 16, 3) := by decide +kernel
theorem dX6_init_34 : decode cX6_init 34 = .ok (.iload_n 1, 1) := by decide +kernel
theorem dX6_init_35 : decode cX6_init 35 = .ok (.new 9, 3) := by decide +kernel
theorem dX6_init_38 : decode cX6_init 38 = .ok (.dup, 1) := by decide +kernel
theorem dX6_init_39 : decode cX6_init 39 = .ok (.invokespecial 11, 3) := by decide +kernel
theorem dX6_init_42 : decode cX6_init 42 = .ok (.aastore, 1) := by decide +kernel
theorem dX6_init_43 : decode cX6_init 43 = .ok (.iinc 1 1, 3) := by decide +kernel
theorem dX6_init_46 : decode cX6_init 46 = .ok (.goto (-21), 3) := by decide +kernel
theorem dX6_init_49 : decode cX6_init 49 = .ok (.aload_n 0, 1) := by decide +kernel
theorem dX6_init_50 : decode cX6_init 50 = .ok (.iconst 0, 1) := by decide +kernel
theorem dX6_init_51 : decode cX6_init 51 = .ok (.putfield 20, 3) := by decide +kernel
theorem dX6_init_54 : decode cX6_init 54 = .ok (.aload_n 0, 1) := by decide +kernel
theorem dX6_init_55 : decode cX6_init 55 = .ok (.new 24, 3) := by decide +kernel
theorem dX6_init_58 : decode cX6_init 58 = .ok (.dup, 1) := by decide +kernel
theorem dX6_init_59 : decode cX6_init 59 = .ok (.bipush 90, 2) := by decide +kernel
theorem dX6_init_61 : decode cX6_init 61 = .ok (.invokespecial 26, 3) := by decide +kernel
theorem dX6_init_64 : decode cX6_init 64 = .ok (.putfield 29, 3) := by decide +kernel
theorem dX6_init_67 : decode cX6_init 67 = .ok (.aload_n 0, 1) := by decide +kernel
theorem dX6_init_68 : decode cX6_init 68 = .ok (.new 24, 3) := by decide +kernel
theorem dX6_init_71 : decode cX6_init 71 = .ok (.dup, 1) := by decide +kernel
theorem dX6_init_72 : decode cX6_init 72 = .ok (.sipush 400, 3) := by decide +kernel
theorem dX6_init_75 : decode cX6_init 75 = .ok (.invokespecial 26, 3) := by decide +kernel
theorem dX6_init_78 : decode cX6_init 78 = .ok (.putfield 33, 3) := by decide +kernel
theorem dX6_init_81 : decode cX6_init 81 = .ok (.aload_n 0, 1) := by decide +kernel
theorem dX6_init_82 : decode cX6_init 82 = .ok (.new 36, 3) := by decide +kernel
theorem dX6_init_85 : decode cX6_init 85 = .ok (.dup, 1) := by decide +kernel
theorem dX6_init_86 : decode cX6_init 86 = .ok (.invokespecial 38, 3) := by decide +kernel
theorem dX6_init_89 : decode cX6_init 89 = .ok (.putfield 39, 3) := by decide +kernel
theorem dX6_init_92 : decode cX6_init 92 = .ok (.aload_n 0, 1) := by decide +kernel
theorem dX6_init_93 : decode cX6_init 93 = .ok (.new 43, 3) := by decide +kernel
theorem dX6_init_96 : decode cX6_init 96 = .ok (.dup, 1) := by decide +kernel
theorem dX6_init_97 : decode cX6_init 97 = .ok (.invokespecial 45, 3) := by decide +kernel
theorem dX6_init_100 : decode cX6_init 100 = .ok (.putfield 46, 3) := by decide +kernel
theorem dX6_init_103 : decode cX6_init 103 = .ok (.aload_n 0, 1) := by decide +kernel
theorem dX6_init_104 : decode cX6_init 104 = .ok (.new 50, 3) := by decide +kernel
theorem dX6_init_107 : decode cX6_init 107 = .ok (.dup, 1) := by decide +kernel
theorem dX6_init_108 : decode cX6_init 108 = .ok (.invokespecial 52, 3) := by decide +kernel
theorem dX6_init_111 : decode cX6_init 111 = .ok (.putfield 53, 3) := by decide +kernel
theorem dX6_init_114 : decode cX6_init 114 = .ok (.return_, 1) := by decide +kernel
theorem dX6_create_0 : decode cX6_create 0 = .ok (.iload_n 1, 1) := by decide +kernel
theorem dX6_create_1 : decode cX6_create 1 = .ok (.bipush 100, 2) := by decide +kernel
theorem dX6_create_3 : decode cX6_create 3 = .ok (.invokestatic 57, 3) := by decide +kernel
theorem dX6_create_6 : decode cX6_create 6 = .ok (.ifCond .ne 6, 3) := by decide +kernel
theorem dX6_create_9 : decode cX6_create 9 = .ok (.ldc 61, 2) := by decide +kernel
theorem dX6_create_11 : decode cX6_create 11 = .ok (.ireturn, 1) := by decide +kernel
theorem dX6_create_12 : decode cX6_create 12 = .ok (.aload_n 0, 1) := by decide +kernel
theorem dX6_create_13 : decode cX6_create 13 = .ok (.getfield 12, 3) := by decide +kernel
theorem dX6_create_16 : decode cX6_create 16 = .ok (.iload_n 1, 1) := by decide +kernel
theorem dX6_create_17 : decode cX6_create 17 = .ok (.invokevirtual 62, 3) := by decide +kernel
theorem dX6_create_20 : decode cX6_create 20 = .ok (.ifnull 6, 3) := by decide +kernel
theorem dX6_create_23 : decode cX6_create 23 = .ok (.ldc 66, 2) := by decide +kernel
theorem dX6_create_25 : decode cX6_create 25 = .ok (.ireturn, 1) := by decide +kernel
theorem dX6_create_26 : decode cX6_create 26 = .ok (.aload_n 0, 1) := by decide +kernel
theorem dX6_create_27 : decode cX6_create 27 = .ok (.getfield 12, 3) := by decide +kernel
theorem dX6_create_30 : decode cX6_create 30 = .ok (.getfield 67, 3) := by decide +kernel
theorem dX6_create_33 : decode cX6_create 33 = .ok (.bipush 10, 2) := by decide +kernel
theorem dX6_create_35 : decode cX6_create 35 = .ok (.if_icmp .lt 6, 3) := by decide +kernel
theorem dX6_create_38 : decode cX6_create 38 = .ok (.ldc 70, 2) := by decide +kernel
theorem dX6_create_40 : decode cX6_create 40 = .ok (.ireturn, 1) := by decide +kernel
theorem dX6_create_41 : decode cX6_create 41 = .ok (.aload_n 0, 1) := by decide +kernel
theorem dX6_create_42 : decode cX6_create 42 = .ok (.invokevirtual 71, 3) := by decide +kernel
theorem dX6_create_45 : decode cX6_create 45 = .ok (.aload_n 0, 1) := by decide +kernel
theorem dX6_create_46 : decode cX6_create 46 = .ok (.getfield 12, 3) := by decide +kernel
theorem dX6_create_49 : decode cX6_create 49 = .ok (.iload_n 1, 1) := by decide +kernel
theorem dX6_create_50 : decode cX6_create 50 = .ok (.invokevirtual 74, 3) := by decide +kernel
theorem dX6_create_53 : decode cX6_create 53 = .ok (.aload_n 0, 1) := by decide +kernel
theorem dX6_create_54 : decode cX6_create 54 = .ok (.getfield 12, 3) := by decide +kernel
theorem dX6_create_57 : decode cX6_create 57 = .ok (.getfield 67, 3) := by decide +kernel
theorem dX6_create_60 : decode cX6_create 60 = .ok (.ireturn, 1) := by decide +kernel
theorem dX6_delete_0 : decode cX6_delete 0 = .ok (.aload_n 0, 1) := by decide +kernel
theorem dX6_delete_1 : decode cX6_delete 1 = .ok (.getfield 12, 3) := by decide +kernel
theorem dX6_delete_4 : decode cX6_delete 4 = .ok (.iload_n 2, 1) := by decide +kernel
theorem dX6_delete_5 : decode cX6_delete 5 = .ok (.invokevirtual 62, 3) := by decide +kernel
theorem dX6_delete_8 : decode cX6_delete 8 = .ok (.astore_n 3, 1) := by decide +kernel
theorem dX6_delete_9 : decode cX6_delete 9 = .ok (.iload_n 1, 1) := by decide +kernel
theorem dX6_delete_10 : decode cX6_delete 10 = .ok (.iconst 4, 1) := by decide +kernel
theorem dX6_delete_11 : decode cX6_delete 11 = .ok (.invokestatic 57, 3) := by decide +kernel
theorem dX6_delete_14 : decode cX6_delete 14 = .ok (.ifCond .eq 7, 3) := by decide +kernel
theorem dX6_delete_17 : decode cX6_delete 17 = .ok (.aload_n 3, 1) := by decide +kernel
theorem dX6_delete_18 : decode cX6_delete 18 = .ok (.ifnonnull 6, 3) := by decide +kernel
theorem dX6_delete_21 : decode cX6_delete 21 = .ok (.ldc 77, 2) := by decide +kernel
theorem dX6_delete_23 : decode cX6_delete 23 = .ok (.ireturn, 1) := by decide +kernel
theorem dX6_delete_24 : decode cX6_delete 24 = .ok (.aload_n 3, 1) := by decide +kernel
theorem dX6_delete_25 : decode cX6_delete 25 = .ok (.iload_n 1, 1) := by decide +kernel
theorem dX6_delete_26 : decode cX6_delete 26 = .ok (.invokevirtual 78, 3) := by decide +kernel
theorem dX6_delete_29 : decode cX6_delete 29 = .ok (.ifCond .ne 6, 3) := by decide +kernel
theorem dX6_delete_32 : decode cX6_delete 32 = .ok (.ldc 84, 2) := by decide +kernel
theorem dX6_delete_34 : decode cX6_delete 34 = .ok (.ireturn, 1) := by decide +kernel
theorem dX6_delete_35 : decode cX6_delete 35 = .ok (.aload_n 0, 1) := by decide +kernel
theorem dX6_delete_36 : decode cX6_delete 36 = .ok (.invokevirtual 71, 3) := by decide +kernel
theorem dX6_delete_39 : decode cX6_delete 39 = .ok (.aload_n 0, 1) := by decide +kernel
theorem dX6_delete_40 : decode cX6_delete 40 = .ok (.getfield 12, 3) := by decide +kernel
theorem dX6_delete_43 : decode cX6_delete 43 = .ok (.iload_n 2, 1) := by decide +kernel
theorem dX6_delete_44 : decode cX6_delete 44 = .ok (.invokevirtual 85, 3) := by decide +kernel
theorem dX6_delete_47 : decode cX6_delete 47 = .ok (.aload_n 0, 1) := by decide +kernel
theorem dX6_delete_48 : decode cX6_delete 48 = .ok (.getfield 12, 3) := by decide +kernel
theorem dX6_delete_51 : decode cX6_delete 51 = .ok (.getfield 67, 3) := by decide +kernel
theorem dX6_delete_54 : decode cX6_delete 54 = .ok (.ireturn, 1) := by decide +kernel
theorem dX6_lock_0 : decode cX6_lock 0 = .ok (.aload_n 0, 1) := by decide +kernel
theorem dX6_lock_1 : decode cX6_lock 1 = .ok (.getfield 12, 3) := by decide +kernel
theorem dX6_lock_4 : decode cX6_lock 4 = .ok (.iload_n 2, 1) := by decide +kernel
theorem dX6_lock_5 : decode cX6_lock 5 = .ok (.invokevirtual 62, 3) := by decide +kernel
theorem dX6_lock_8 : decode cX6_lock 8 = .ok (.astore_n 3, 1) := by decide +kernel
theorem dX6_lock_9 : decode cX6_lock 9 = .ok (.iload_n 1, 1) := by decide +kernel
theorem dX6_lock_10 : decode cX6_lock 10 = .ok (.iconst 4, 1) := by decide +kernel
theorem dX6_lock_11 : decode cX6_lock 11 = .ok (.invokestatic 57, 3) := by decide +kernel
theorem dX6_lock_14 : decode cX6_lock 14 = .ok (.ifCond .eq 7, 3) := by decide +kernel
theorem dX6_lock_17 : decode cX6_lock 17 = .ok (.aload_n 3, 1) := by decide +kernel
theorem dX6_lock_18 : decode cX6_lock 18 = .ok (.ifnonnull 6, 3) := by decide +kernel
theorem dX6_lock_21 : decode cX6_lock 21 = .ok (.ldc 77, 2) := by decide +kernel
theorem dX6_lock_23 : decode cX6_lock 23 = .ok (.ireturn, 1) := by decide +kernel
theorem dX6_lock_24 : decode cX6_lock 24 = .ok (.aload_n 3, 1) := by decide +kernel
theorem dX6_lock_25 : decode cX6_lock 25 = .ok (.iload_n 1, 1) := by decide +kernel
theorem dX6_lock_26 : decode cX6_lock 26 = .ok (.invokevirtual 78, 3) := by decide +kernel
theorem dX6_lock_29 : decode cX6_lock 29 = .ok (.ifCond .ne 6, 3) := by decide +kernel
theorem dX6_lock_32 : decode cX6_lock 32 = .ok (.ldc 84, 2) := by decide +kernel
theorem dX6_lock_34 : decode cX6_lock 34 = .ok (.ireturn, 1) := by decide +kernel
theorem dX6_lock_35 : decode cX6_lock 35 = .ok (.aload_n 0, 1) := by decide +kernel
theorem dX6_lock_36 : decode cX6_lock 36 = .ok (.invokevirtual 71, 3) := by decide +kernel
theorem dX6_lock_39 : decode cX6_lock 39 = .ok (.aload_n 3, 1) := by decide +kernel
theorem dX6_lock_40 : decode cX6_lock 40 = .ok (.iload_n 1, 1) := by decide +kernel
theorem dX6_lock_41 : decode cX6_lock 41 = .ok (.putfield 88, 3) := by decide +kernel
theorem dX6_lock_44 : decode cX6_lock 44 = .ok (.aload_n 0, 1) := by decide +kernel
theorem dX6_lock_45 : decode cX6_lock 45 = .ok (.getfield 12, 3) := by decide +kernel
theorem dX6_lock_48 : decode cX6_lock 48 = .ok (.iload_n 1, 1) := by decide +kernel
theorem dX6_lock_49 : decode cX6_lock 49 = .ok (.invokevirtual 91, 3) := by decide +kernel
theorem dX6_lock_52 : decode cX6_lock 52 = .ok (.ireturn, 1) := by decide +kernel
theorem dX6_unlock_0 : decode cX6_unlock 0 = .ok (.aload_n 0, 1) := by decide +kernel
theorem dX6_unlock_1 : decode cX6_unlock 1 = .ok (.getfield 12, 3) := by decide +kernel
theorem dX6_unlock_4 : decode cX6_unlock 4 = .ok (.iload_n 2, 1) := by decide +kernel
theorem dX6_unlock_5 : decode cX6_unlock 5 = .ok (.invokevirtual 62, 3) := by decide +kernel
theorem dX6_unlock_8 : decode cX6_unlock 8 = .ok (.astore_n 3, 1) := by decide +kernel
theorem dX6_unlock_9 : decode cX6_unlock 9 = .ok (.iload_n 1, 1) := by decide +kernel
theorem dX6_unlock_10 : decode cX6_unlock 10 = .ok (.iconst 4, 1) := by decide +kernel
theorem dX6_unlock_11 : decode cX6_unlock 11 = .ok (.invokestatic 57, 3) := by decide +kernel
theorem dX6_unlock_14 : decode cX6_unlock 14 = .ok (.ifCond .eq 7, 3) := by decide +kernel
theorem dX6_unlock_17 : decode cX6_unlock 17 = .ok (.aload_n 3, 1) := by decide +kernel
theorem dX6_unlock_18 : decode cX6_unlock 18 = .ok (.ifnonnull 6, 3) := by decide +kernel
theorem dX6_unlock_21 : decode cX6_unlock 21 = .ok (.ldc 77, 2) := by decide +kernel
theorem dX6_unlock_23 : decode cX6_unlock 23 = .ok (.ireturn, 1) := by decide +kernel
theorem dX6_unlock_24 : decode cX6_unlock 24 = .ok (.aload_n 3, 1) := by decide +kernel
theorem dX6_unlock_25 : decode cX6_unlock 25 = .ok (.iload_n 1, 1) := by decide +kernel
theorem dX6_unlock_26 : decode cX6_unlock 26 = .ok (.invokevirtual 78, 3) := by decide +kernel
theorem dX6_unlock_29 : decode cX6_unlock 29 = .ok (.ifCond .ne 6, 3) := by decide +kernel
theorem dX6_unlock_32 : decode cX6_unlock 32 = .ok (.ldc 84, 2) := by decide +kernel
theorem dX6_unlock_34 : decode cX6_unlock 34 = .ok (.ireturn, 1) := by decide +kernel
theorem dX6_unlock_35 : decode cX6_unlock 35 = .ok (.aload_n 3, 1) := by decide +kernel
theorem dX6_unlock_36 : decode cX6_unlock 36 = .ok (.getfield 88, 3) := by decide +kernel
theorem dX6_unlock_39 : decode cX6_unlock 39 = .ok (.ldc 95, 2) := by decide +kernel
theorem dX6_unlock_41 : decode cX6_unlock 41 = .ok (.if_icmp .ne 6, 3) := by decide +kernel
theorem dX6_unlock_44 : decode cX6_unlock 44 = .ok (.ldc 66, 2) := by decide +kernel
theorem dX6_unlock_46 : decode cX6_unlock 46 = .ok (.ireturn, 1) := by decide +kernel
theorem dX6_unlock_47 : decode cX6_unlock 47 = .ok (.aload_n 0, 1) := by decide +kernel
theorem dX6_unlock_48 : decode cX6_unlock 48 = .ok (.invokevirtual 71, 3) := by decide +kernel
theorem dX6_unlock_51 : decode cX6_unlock 51 = .ok (.aload_n 3, 1) := by decide +kernel
theorem dX6_unlock_52 : decode cX6_unlock 52 = .ok (.ldc 95, 2) := by decide +kernel
theorem dX6_unlock_54 : decode cX6_unlock 54 = .ok (.putfield 88, 3) := by decide +kernel
theorem dX6_unlock_57 : decode cX6_unlock 57 = .ok (.aload_n 0, 1) := by decide +kernel
theorem dX6_unlock_58 : decode cX6_unlock 58 = .ok (.getfield 12, 3) := by decide +kernel
theorem dX6_unlock_61 : decode cX6_unlock 61 = .ok (.iload_n 1, 1) := by decide +kernel
theorem dX6_unlock_62 : decode cX6_unlock 62 = .ok (.invokevirtual 91, 3) := by decide +kernel
theorem dX6_unlock_65 : decode cX6_unlock 65 = .ok (.ireturn, 1) := by decide +kernel
theorem dX6_insert_0 : decode cX6_insert 0 = .ok (.aload_n 0, 1) := by decide +kernel
theorem dX6_insert_1 : decode cX6_insert 1 = .ok (.getfield 12, 3) := by decide +kernel
theorem dX6_insert_4 : decode cX6_insert 4 = .ok (.iload_n 2, 1) := by decide +kernel
theorem dX6_insert_5 : decode cX6_insert 5 = .ok (.invokevirtual 62, 3) := by decide +kernel
theorem dX6_insert_8 : decode cX6_insert 8 = .ok (.astore 7, 2) := by decide +kernel
theorem dX6_insert_10 : decode cX6_insert 10 = .ok (.iload_n 1, 1) := by decide +kernel
theorem dX6_insert_11 : decode cX6_insert 11 = .ok (.iconst 4, 1) := by decide +kernel
theorem dX6_insert_12 : decode cX6_insert 12 = .ok (.invokestatic 57, 3) := by decide +kernel
theorem dX6_insert_15 : decode cX6_insert 15 = .ok (.ifCond .eq 21, 3) := by decide +kernel
theorem dX6_insert_18 : decode cX6_insert 18 = .ok (.aload 7, 2) := by decide +kernel
theorem dX6_insert_20 : decode cX6_insert 20 = .ok (.ifnull 16, 3) := by decide +kernel
theorem dX6_insert_23 : decode cX6_insert 23 = .ok (.aload 7, 2) := by decide +kernel
theorem dX6_insert_25 : decode cX6_insert 25 = .ok (.iload_n 3, 1) := by decide +kernel
theorem dX6_insert_26 : decode cX6_insert 26 = .ok (.iload 4, 2) := by decide +kernel
theorem dX6_insert_28 : decode cX6_insert 28 = .ok (.iload 5, 2) := by decide +kernel
theorem dX6_insert_30 : decode cX6_insert 30 = .ok (.invokevirtual 96, 3) := by decide +kernel
theorem dX6_insert_33 : decode cX6_insert 33 = .ok (.ifCond .ne 6, 3) := by decide +kernel
theorem dX6_insert_36 : decode cX6_insert 36 = .ok (.ldc 77, 2) := by decide +kernel
theorem dX6_insert_38 : decode cX6_insert 38 = .ok (.ireturn, 1) := by decide +kernel
theorem dX6_insert_39 : decode cX6_insert 39 = .ok (.iload 6, 2) := by decide +kernel
theorem dX6_insert_41 : decode cX6_insert 41 = .ok (.invokestatic 100, 3) := by decide +kernel
theorem dX6_insert_44 : decode cX6_insert 44 = .ok (.ifCond .ne 6, 3) := by decide +kernel
theorem dX6_insert_47 : decode cX6_insert 47 = .ok (.ldc 61, 2) := by decide +kernel
theorem dX6_insert_49 : decode cX6_insert 49 = .ok (.ireturn, 1) := by decide +kernel
theorem dX6_insert_50 : decode cX6_insert 50 = .ok (.aload 7, 2) := by decide +kernel
theorem dX6_insert_52 : decode cX6_insert 52 = .ok (.iload_n 1, 1) := by decide +kernel
theorem dX6_insert_53 : decode cX6_insert 53 = .ok (.invokevirtual 78, 3) := by decide +kernel
theorem dX6_insert_56 : decode cX6_insert 56 = .ok (.ifCond .ne 6, 3) := by decide +kernel
theorem dX6_insert_59 : decode cX6_insert 59 = .ok (.ldc 84, 2) := by decide +kernel
theorem dX6_insert_61 : decode cX6_insert 61 = .ok (.ireturn, 1) := by decide +kernel
theorem dX6_insert_62 : decode cX6_insert 62 = .ok (.iload 5, 2) := by decide +kernel
theorem dX6_insert_64 : decode cX6_insert 64 = .ok (.iconst (-1), 1) := by decide +kernel
theorem dX6_insert_65 : decode cX6_insert 65 = .ok (.if_icmp .ne 15, 3) := by decide +kernel
theorem dX6_insert_68 : decode cX6_insert 68 = .ok (.aload_n 0, 1) := by decide +kernel
theorem dX6_insert_69 : decode cX6_insert 69 = .ok (.aload 7, 2) := by decide +kernel
theorem dX6_insert_71 : decode cX6_insert 71 = .ok (.iload_n 3, 1) := by decide +kernel
theorem dX6_insert_72 : decode cX6_insert 72 = .ok (.iload 4, 2) := by decide +kernel
theorem dX6_insert_74 : decode cX6_insert 74 = .ok (.iload 6, 2) := by decide +kernel
theorem dX6_insert_76 : decode cX6_insert 76 = .ok (.invokevirtual 103, 3) := by decide +kernel
theorem dX6_insert_79 : decode cX6_insert 79 = .ok (.ireturn, 1) := by decide +kernel
theorem dX6_insert_80 : decode cX6_insert 80 = .ok (.aload_n 0, 1) := by decide +kernel
theorem dX6_insert_81 : decode cX6_insert 81 = .ok (.aload 7, 2) := by decide +kernel
theorem dX6_insert_83 : decode cX6_insert 83 = .ok (.iload_n 3, 1) := by decide +kernel
theorem dX6_insert_84 : decode cX6_insert 84 = .ok (.iload 4, 2) := by decide +kernel
theorem dX6_insert_86 : decode cX6_insert 86 = .ok (.iload 5, 2) := by decide +kernel
theorem dX6_insert_88 : decode cX6_insert 88 = .ok (.iload 6, 2) := by decide +kernel
theorem dX6_insert_90 : decode cX6_insert 90 = .ok (.invokevirtual 107, 3) := by decide +kernel
theorem dX6_insert_93 : decode cX6_insert 93 = .ok (.ireturn, 1) := by decide +kernel
theorem dX6_insertValue_0 : decode cX6_insertValue 0 = .ok (.aload_n 1, 1) := by decide +kernel
theorem dX6_insertValue_1 : decode cX6_insertValue 1 = .ok (.iload_n 2, 1) := by decide +kernel
theorem dX6_insertValue_2 : decode cX6_insertValue 2 = .ok (.invokevirtual 111, 3) := by decide +kernel
theorem dX6_insertValue_5 : decode cX6_insertValue 5 = .ok (.iconst 5, 1) := by decide +kernel
theorem dX6_insertValue_6 : decode cX6_insertValue 6 = .ok (.if_icmp .lt 6, 3) := by decide +kernel
theorem dX6_insertValue_9 : decode cX6_insertValue 9 = .ok (.ldc 70, 2) := by decide +kernel
theorem dX6_insertValue_11 : decode cX6_insertValue 11 = .ok (.ireturn, 1) := by decide +kernel
theorem dX6_insertValue_12 : decode cX6_insertValue 12 = .ok (.aload_n 0, 1) := by decide +kernel
theorem dX6_insertValue_13 : decode cX6_insertValue 13 = .ok (.invokevirtual 71, 3) := by decide +kernel
theorem dX6_insertValue_16 : decode cX6_insertValue 16 = .ok (.aload_n 1, 1) := by decide +kernel
theorem dX6_insertValue_17 : decode cX6_insertValue 17 = .ok (.iload_n 2, 1) := by decide +kernel
theorem dX6_insertValue_18 : decode cX6_insertValue 18 = .ok (.iload_n 3, 1) := by decide +kernel
theorem dX6_insertValue_19 : decode cX6_insertValue 19 = .ok (.iload 4, 2) := by decide +kernel
theorem dX6_insertValue_21 : decode cX6_insertValue 21 = .ok (.invokevirtual 114, 3) := by decide +kernel
theorem dX6_insertValue_24 : decode cX6_insertValue 24 = .ok (.aload_n 1, 1) := by decide +kernel
theorem dX6_insertValue_25 : decode cX6_insertValue 25 = .ok (.iload_n 2, 1) := by decide +kernel
theorem dX6_insertValue_26 : decode cX6_insertValue 26 = .ok (.invokevirtual 111, 3) := by decide +kernel
theorem dX6_insertValue_29 : decode cX6_insertValue 29 = .ok (.ireturn, 1) := by decide +kernel
theorem dX6_insertSub_0 : decode cX6_insertSub 0 = .ok (.aload_n 1, 1) := by decide +kernel
theorem dX6_insertSub_1 : decode cX6_insertSub 1 = .ok (.iload_n 2, 1) := by decide +kernel
theorem dX6_insertSub_2 : decode cX6_insertSub 2 = .ok (.iload_n 3, 1) := by decide +kernel
theorem dX6_insertSub_3 : decode cX6_insertSub 3 = .ok (.invokevirtual 118, 3) := by decide +kernel
theorem dX6_insertSub_6 : decode cX6_insertSub 6 = .ok (.iconst 4, 1) := by decide +kernel
theorem dX6_insertSub_7 : decode cX6_insertSub 7 = .ok (.if_icmp .lt 6, 3) := by decide +kernel
theorem dX6_insertSub_10 : decode cX6_insertSub 10 = .ok (.ldc 70, 2) := by decide +kernel
theorem dX6_insertSub_12 : decode cX6_insertSub 12 = .ok (.ireturn, 1) := by decide +kernel
theorem dX6_insertSub_13 : decode cX6_insertSub 13 = .ok (.aload_n 0, 1) := by decide +kernel
theorem dX6_insertSub_14 : decode cX6_insertSub 14 = .ok (.invokevirtual 71, 3) := by decide +kernel
theorem dX6_insertSub_17 : decode cX6_insertSub 17 = .ok (.aload_n 1, 1) := by decide +kernel
theorem dX6_insertSub_18 : decode cX6_insertSub 18 = .ok (.iload_n 2, 1) := by decide +kernel
theorem dX6_insertSub_19 : decode cX6_insertSub 19 = .ok (.iload_n 3, 1) := by decide +kernel
theorem dX6_insertSub_20 : decode cX6_insertSub 20 = .ok (.iload 4, 2) := by decide +kernel
theorem dX6_insertSub_22 : decode cX6_insertSub 22 = .ok (.iload 5, 2) := by decide +kernel
theorem dX6_insertSub_24 : decode cX6_insertSub 24 = .ok (.invokevirtual 122, 3) := by decide +kernel
theorem dX6_insertSub_27 : decode cX6_insertSub 27 = .ok (.aload_n 1, 1) := by decide +kernel
theorem dX6_insertSub_28 : decode cX6_insertSub 28 = .ok (.iload_n 2, 1) := by decide +kernel
theorem dX6_insertSub_29 : decode cX6_insertSub 29 = .ok (.iload_n 3, 1) := by decide +kernel
theorem dX6_insertSub_30 : decode cX6_insertSub 30 = .ok (.invokevirtual 118, 3) := by decide +kernel
theorem dX6_insertSub_33 : decode cX6_insertSub 33 = .ok (.ireturn, 1) := by decide +kernel
theorem dX6_change_0 : decode cX6_change 0 = .ok (.aload_n 0, 1) := by decide +kernel
theorem dX6_change_1 : decode cX6_change 1 = .ok (.getfield 12, 3) := by decide +kernel
theorem dX6_change_4 : decode cX6_change 4 = .ok (.iload_n 2, 1) := by decide +kernel
theorem dX6_change_5 : decode cX6_change 5 = .ok (.invokevirtual 62, 3) := by decide +kernel
theorem dX6_change_8 : decode cX6_change 8 = .ok (.astore 7, 2) := by decide +kernel
theorem dX6_change_10 : decode cX6_change 10 = .ok (.iload_n 1, 1) := by decide +kernel
theorem dX6_change_11 : decode cX6_change 11 = .ok (.iconst 4, 1) := by decide +kernel
theorem dX6_change_12 : decode cX6_change 12 = .ok (.invokestatic 57, 3) := by decide +kernel
theorem dX6_change_15 : decode cX6_change 15 = .ok (.ifCond .eq 21, 3) := by decide +kernel
theorem dX6_change_18 : decode cX6_change 18 = .ok (.aload 7, 2) := by decide +kernel
theorem dX6_change_20 : decode cX6_change 20 = .ok (.ifnull 16, 3) := by decide +kernel
theorem dX6_change_23 : decode cX6_change 23 = .ok (.aload 7, 2) := by decide +kernel
theorem dX6_change_25 : decode cX6_change 25 = .ok (.iload_n 3, 1) := by decide +kernel
theorem dX6_change_26 : decode cX6_change 26 = .ok (.iload 4, 2) := by decide +kernel
theorem dX6_change_28 : decode cX6_change 28 = .ok (.iload 5, 2) := by decide +kernel
theorem dX6_change_30 : decode cX6_change 30 = .ok (.invokevirtual 126, 3) := by decide +kernel
theorem dX6_change_33 : decode cX6_change 33 = .ok (.ifCond .ne 6, 3) := by decide +kernel
theorem dX6_change_36 : decode cX6_change 36 = .ok (.ldc 77, 2) := by decide +kernel
theorem dX6_change_38 : decode cX6_change 38 = .ok (.ireturn, 1) := by decide +kernel
theorem dX6_change_39 : decode cX6_change 39 = .ok (.iload 6, 2) := by decide +kernel
theorem dX6_change_41 : decode cX6_change 41 = .ok (.invokestatic 100, 3) := by decide +kernel
theorem dX6_change_44 : decode cX6_change 44 = .ok (.ifCond .ne 6, 3) := by decide +kernel
theorem dX6_change_47 : decode cX6_change 47 = .ok (.ldc 61, 2) := by decide +kernel
theorem dX6_change_49 : decode cX6_change 49 = .ok (.ireturn, 1) := by decide +kernel
theorem dX6_change_50 : decode cX6_change 50 = .ok (.aload 7, 2) := by decide +kernel
theorem dX6_change_52 : decode cX6_change 52 = .ok (.iload_n 1, 1) := by decide +kernel
theorem dX6_change_53 : decode cX6_change 53 = .ok (.invokevirtual 78, 3) := by decide +kernel
theorem dX6_change_56 : decode cX6_change 56 = .ok (.ifCond .ne 6, 3) := by decide +kernel
theorem dX6_change_59 : decode cX6_change 59 = .ok (.ldc 84, 2) := by decide +kernel
theorem dX6_change_61 : decode cX6_change 61 = .ok (.ireturn, 1) := by decide +kernel
theorem dX6_change_62 : decode cX6_change 62 = .ok (.aload 7, 2) := by decide +kernel
theorem dX6_change_64 : decode cX6_change 64 = .ok (.iload_n 3, 1) := by decide +kernel
theorem dX6_change_65 : decode cX6_change 65 = .ok (.iload 4, 2) := by decide +kernel
theorem dX6_change_67 : decode cX6_change 67 = .ok (.iload 5, 2) := by decide +kernel
theorem dX6_change_69 : decode cX6_change 69 = .ok (.invokevirtual 129, 3) := by decide +kernel
theorem dX6_change_72 : decode cX6_change 72 = .ok (.istore 8, 2) := by decide +kernel
theorem dX6_change_74 : decode cX6_change 74 = .ok (.aload_n 0, 1) := by decide +kernel
theorem dX6_change_75 : decode cX6_change 75 = .ok (.invokevirtual 71, 3) := by decide +kernel
theorem dX6_change_78 : decode cX6_change 78 = .ok (.aload 7, 2) := by decide +kernel
theorem dX6_change_80 : decode cX6_change 80 = .ok (.iload_n 3, 1) := by decide +kernel
theorem dX6_change_81 : decode cX6_change 81 = .ok (.iload 4, 2) := by decide +kernel
theorem dX6_change_83 : decode cX6_change 83 = .ok (.iload 5, 2) := by decide +kernel
theorem dX6_change_85 : decode cX6_change 85 = .ok (.iload 6, 2) := by decide +kernel
theorem dX6_change_87 : decode cX6_change 87 = .ok (.invokevirtual 133, 3) := by decide +kernel
theorem dX6_change_90 : decode cX6_change 90 = .ok (.iload 8, 2) := by decide +kernel
theorem dX6_change_92 : decode cX6_change 92 = .ok (.ireturn, 1) := by decide +kernel
theorem dX6_remove_0 : decode cX6_remove 0 = .ok (.aload_n 0, 1) := by decide +kernel
theorem dX6_remove_1 : decode cX6_remove 1 = .ok (.getfield 12, 3) := by decide +kernel
theorem dX6_remove_4 : decode cX6_remove 4 = .ok (.iload_n 2, 1) := by decide +kernel
theorem dX6_remove_5 : decode cX6_remove 5 = .ok (.invokevirtual 62, 3) := by decide +kernel
theorem dX6_remove_8 : decode cX6_remove 8 = .ok (.astore 6, 2) := by decide +kernel
theorem dX6_remove_10 : decode cX6_remove 10 = .ok (.iload_n 1, 1) := by decide +kernel
theorem dX6_remove_11 : decode cX6_remove 11 = .ok (.iconst 4, 1) := by decide +kernel
theorem dX6_remove_12 : decode cX6_remove 12 = .ok (.invokestatic 57, 3) := by decide +kernel
theorem dX6_remove_15 : decode cX6_remove 15 = .ok (.ifCond .eq 21, 3) := by decide +kernel
theorem dX6_remove_18 : decode cX6_remove 18 = .ok (.aload 6, 2) := by decide +kernel
theorem dX6_remove_20 : decode cX6_remove 20 = .ok (.ifnull 16, 3) := by decide +kernel
theorem dX6_remove_23 : decode cX6_remove 23 = .ok (.aload 6, 2) := by decide +kernel
theorem dX6_remove_25 : decode cX6_remove 25 = .ok (.iload_n 3, 1) := by decide +kernel
theorem dX6_remove_26 : decode cX6_remove 26 = .ok (.iload 4, 2) := by decide +kernel
theorem dX6_remove_28 : decode cX6_remove 28 = .ok (.iload 5, 2) := by decide +kernel
theorem dX6_remove_30 : decode cX6_remove 30 = .ok (.invokevirtual 136, 3) := by decide +kernel
theorem dX6_remove_33 : decode cX6_remove 33 = .ok (.ifCond .ne 6, 3) := by decide +kernel
theorem dX6_remove_36 : decode cX6_remove 36 = .ok (.ldc 77, 2) := by decide +kernel
theorem dX6_remove_38 : decode cX6_remove 38 = .ok (.ireturn, 1) := by decide +kernel
theorem dX6_remove_39 : decode cX6_remove 39 = .ok (.aload 6, 2) := by decide +kernel
theorem dX6_remove_41 : decode cX6_remove 41 = .ok (.iload_n 1, 1) := by decide +kernel
theorem dX6_remove_42 : decode cX6_remove 42 = .ok (.invokevirtual 78, 3) := by decide +kernel
theorem dX6_remove_45 : decode cX6_remove 45 = .ok (.ifCond .ne 6, 3) := by decide +kernel
theorem dX6_remove_48 : decode cX6_remove 48 = .ok (.ldc 84, 2) := by decide +kernel
theorem dX6_remove_50 : decode cX6_remove 50 = .ok (.ireturn, 1) := by decide +kernel
theorem dX6_remove_51 : decode cX6_remove 51 = .ok (.aload_n 0, 1) := by decide +kernel
theorem dX6_remove_52 : decode cX6_remove 52 = .ok (.invokevirtual 71, 3) := by decide +kernel
theorem dX6_remove_55 : decode cX6_remove 55 = .ok (.iload 5, 2) := by decide +kernel
theorem dX6_remove_57 : decode cX6_remove 57 = .ok (.iconst (-1), 1) := by decide +kernel
theorem dX6_remove_58 : decode cX6_remove 58 = .ok (.if_icmp .eq 15, 3) := by decide +kernel
theorem dX6_remove_61 : decode cX6_remove 61 = .ok (.aload 6, 2) := by decide +kernel
theorem dX6_remove_63 : decode cX6_remove 63 = .ok (.iload_n 3, 1) := by decide +kernel
theorem dX6_remove_64 : decode cX6_remove 64 = .ok (.iload 4, 2) := by decide +kernel
theorem dX6_remove_66 : decode cX6_remove 66 = .ok (.invokevirtual 118, 3) := by decide +kernel
theorem dX6_remove_69 : decode cX6_remove 69 = .ok (.iconst 1, 1) := by decide +kernel
theorem dX6_remove_70 : decode cX6_remove 70 = .ok (.if_icmp .ne 14, 3) := by decide +kernel
theorem dX6_remove_73 : decode cX6_remove 73 = .ok (.aload 6, 2) := by decide +kernel
theorem dX6_remove_75 : decode cX6_remove 75 = .ok (.iload_n 3, 1) := by decide +kernel
theorem dX6_remove_76 : decode cX6_remove 76 = .ok (.iload 4, 2) := by decide +kernel
theorem dX6_remove_78 : decode cX6_remove 78 = .ok (.invokevirtual 139, 3) := by decide +kernel
theorem dX6_remove_81 : decode cX6_remove 81 = .ok (.goto 13, 3) := by decide +kernel
theorem dX6_remove_84 : decode cX6_remove 84 = .ok (.aload 6, 2) := by decide +kernel
theorem dX6_remove_86 : decode cX6_remove 86 = .ok (.iload_n 3, 1) := by decide +kernel
theorem dX6_remove_87 : decode cX6_remove 87 = .ok (.iload 4, 2) := by decide +kernel
theorem dX6_remove_89 : decode cX6_remove 89 = .ok (.iload 5, 2) := by decide +kernel
theorem dX6_remove_91 : decode cX6_remove 91 = .ok (.invokevirtual 143, 3) := by decide +kernel
theorem dX6_remove_94 : decode cX6_remove 94 = .ok (.aload 6, 2) := by decide +kernel
theorem dX6_remove_96 : decode cX6_remove 96 = .ok (.iload_n 3, 1) := by decide +kernel
theorem dX6_remove_97 : decode cX6_remove 97 = .ok (.invokevirtual 111, 3) := by decide +kernel
theorem dX6_remove_100 : decode cX6_remove 100 = .ok (.ireturn, 1) := by decide +kernel
theorem dX6_removeLine_0 : decode cX6_removeLine 0 = .ok (.aload_n 0, 1) := by decide +kernel
theorem dX6_removeLine_1 : decode cX6_removeLine 1 = .ok (.getfield 12, 3) := by decide +kernel
theorem dX6_removeLine_4 : decode cX6_removeLine 4 = .ok (.iload_n 2, 1) := by decide +kernel
theorem dX6_removeLine_5 : decode cX6_removeLine 5 = .ok (.invokevirtual 62, 3) := by decide +kernel
theorem dX6_removeLine_8 : decode cX6_removeLine 8 = .ok (.astore 4, 2) := by decide +kernel
theorem dX6_removeLine_10 : decode cX6_removeLine 10 = .ok (.iload_n 1, 1) := by decide +kernel
theorem dX6_removeLine_11 : decode cX6_removeLine 11 = .ok (.iconst 4, 1) := by decide +kernel
theorem dX6_removeLine_12 : decode cX6_removeLine 12 = .ok (.invokestatic 57, 3) := by decide +kernel
theorem dX6_removeLine_15 : decode cX6_removeLine 15 = .ok (.ifCond .eq 25, 3) := by decide +kernel
theorem dX6_removeLine_18 : decode cX6_removeLine 18 = .ok (.aload 4, 2) := by decide +kernel
theorem dX6_removeLine_20 : decode cX6_removeLine 20 = .ok (.ifnull 20, 3) := by decide +kernel
theorem dX6_removeLine_23 : decode cX6_removeLine 23 = .ok (.iload_n 3, 1) := by decide +kernel
theorem dX6_removeLine_24 : decode cX6_removeLine 24 = .ok (.ifCond .lt 16, 3) := by decide +kernel
theorem dX6_removeLine_27 : decode cX6_removeLine 27 = .ok (.iload_n 3, 1) := by decide +kernel
theorem dX6_removeLine_28 : decode cX6_removeLine 28 = .ok (.aload_n 0, 1) := by decide +kernel
theorem dX6_removeLine_29 : decode cX6_removeLine 29 = .ok (.getfield 12, 3) := by decide +kernel
theorem dX6_removeLine_32 : decode cX6_removeLine 32 = .ok (.aload 4, 2) := by decide +kernel
theorem dX6_removeLine_34 : decode cX6_removeLine 34 = .ok (.invokevirtual 146, 3) := by decide +kernel
theorem dX6_removeLine_37 : decode cX6_removeLine 37 = .ok (.if_icmp .lt 6, 3) := by decide +kernel
theorem dX6_removeLine_40 : decode cX6_removeLine 40 = .ok (.ldc 77, 2) := by decide +kernel
theorem dX6_removeLine_42 : decode cX6_removeLine 42 = .ok (.ireturn, 1) := by decide +kernel
theorem dX6_removeLine_43 : decode cX6_removeLine 43 = .ok (.aload 4, 2) := by decide +kernel
theorem dX6_removeLine_45 : decode cX6_removeLine 45 = .ok (.iload_n 1, 1) := by decide +kernel
theorem dX6_removeLine_46 : decode cX6_removeLine 46 = .ok (.invokevirtual 78, 3) := by decide +kernel
theorem dX6_removeLine_49 : decode cX6_removeLine 49 = .ok (.ifCond .ne 6, 3) := by decide +kernel
theorem dX6_removeLine_52 : decode cX6_removeLine 52 = .ok (.ldc 84, 2) := by decide +kernel
theorem dX6_removeLine_54 : decode cX6_removeLine 54 = .ok (.ireturn, 1) := by decide +kernel
theorem dX6_removeLine_55 : decode cX6_removeLine 55 = .ok (.aload_n 0, 1) := by decide +kernel
theorem dX6_removeLine_56 : decode cX6_removeLine 56 = .ok (.invokevirtual 71, 3) := by decide +kernel
theorem dX6_removeLine_59 : decode cX6_removeLine 59 = .ok (.iconst 0, 1) := by decide +kernel
theorem dX6_removeLine_60 : decode cX6_removeLine 60 = .ok (.istore 5, 2) := by decide +kernel
theorem dX6_removeLine_62 : decode cX6_removeLine 62 = .ok (.iconst 0, 1) := by decide +kernel
theorem dX6_removeLine_63 : decode cX6_removeLine 63 = .ok (.istore 6, 2) := by decide +kernel
theorem dX6_removeLine_65 : decode cX6_removeLine 65 = .ok (.iload 6, 2) := by decide +kernel
theorem dX6_removeLine_67 : decode cX6_removeLine 67 = .ok (.iconst 4, 1) := by decide +kernel
theorem dX6_removeLine_68 : decode cX6_removeLine 68 = .ok (.if_icmp .ge 44, 3) := by decide +kernel
theorem dX6_removeLine_71 : decode cX6_removeLine 71 = .ok (.aload_n 0, 1) := by decide +kernel
theorem dX6_removeLine_72 : decode cX6_removeLine 72 = .ok (.getfield 12, 3) := by decide +kernel
theorem dX6_removeLine_75 : decode cX6_removeLine 75 = .ok (.getfield 150, 3) := by decide +kernel
theorem dX6_removeLine_78 : decode cX6_removeLine 78 = .ok (.iload 6, 2) := by decide +kernel
theorem dX6_removeLine_80 : decode cX6_removeLine 80 = .ok (.baload, 1) := by decide +kernel
theorem dX6_removeLine_81 : decode cX6_removeLine 81 = .ok (.ifCond .eq 25, 3) := by decide +kernel
theorem dX6_removeLine_84 : decode cX6_removeLine 84 = .ok (.aload 4, 2) := by decide +kernel
theorem dX6_removeLine_86 : decode cX6_removeLine 86 = .ok (.iload 6, 2) := by decide +kernel
theorem dX6_removeLine_88 : decode cX6_removeLine 88 = .ok (.iload_n 3, 1) := by decide +kernel
theorem dX6_removeLine_89 : decode cX6_removeLine 89 = .ok (.invokevirtual 154, 3) := by decide +kernel
theorem dX6_removeLine_92 : decode cX6_removeLine 92 = .ok (.ifCond .eq 14, 3) := by decide +kernel
theorem dX6_removeLine_95 : decode cX6_removeLine 95 = .ok (.aload 4, 2) := by decide +kernel
theorem dX6_removeLine_97 : decode cX6_removeLine 97 = .ok (.iload 6, 2) := by decide +kernel
theorem dX6_removeLine_99 : decode cX6_removeLine 99 = .ok (.iload_n 3, 1) := by decide +kernel
theorem dX6_removeLine_100 : decode cX6_removeLine 100 = .ok (.invokevirtual 139, 3) := by decide +kernel
theorem dX6_removeLine_103 : decode cX6_removeLine 103 = .ok (.iinc 5 1, 3) := by decide +kernel
theorem dX6_removeLine_106 : decode cX6_removeLine 106 = .ok (.iinc 6 1, 3) := by decide +kernel
theorem dX6_removeLine_109 : decode cX6_removeLine 109 = .ok (.goto (-44), 3) := by decide +kernel
theorem dX6_removeLine_112 : decode cX6_removeLine 112 = .ok (.iload 5, 2) := by decide +kernel
theorem dX6_removeLine_114 : decode cX6_removeLine 114 = .ok (.ireturn, 1) := by decide +kernel
theorem dX6_load_0 : decode cX6_load 0 = .ok (.aload_n 0, 1) := by decide +kernel
theorem dX6_load_1 : decode cX6_load 1 = .ok (.getfield 12, 3) := by decide +kernel
theorem dX6_load_4 : decode cX6_load 4 = .ok (.iload_n 2, 1) := by decide +kernel
theorem dX6_load_5 : decode cX6_load 5 = .ok (.invokevirtual 62, 3) := by decide +kernel
theorem dX6_load_8 : decode cX6_load 8 = .ok (.astore_n 3, 1) := by decide +kernel
theorem dX6_load_9 : decode cX6_load 9 = .ok (.iload_n 1, 1) := by decide +kernel
theorem dX6_load_10 : decode cX6_load 10 = .ok (.iconst 4, 1) := by decide +kernel
theorem dX6_load_11 : decode cX6_load 11 = .ok (.invokestatic 57, 3) := by decide +kernel
theorem dX6_load_14 : decode cX6_load 14 = .ok (.ifCond .eq 7, 3) := by decide +kernel
theorem dX6_load_17 : decode cX6_load 17 = .ok (.aload_n 3, 1) := by decide +kernel
theorem dX6_load_18 : decode cX6_load 18 = .ok (.ifnonnull 6, 3) := by decide +kernel
theorem dX6_load_21 : decode cX6_load 21 = .ok (.ldc 77, 2) := by decide +kernel
theorem dX6_load_23 : decode cX6_load 23 = .ok (.ireturn, 1) := by decide +kernel
theorem dX6_load_24 : decode cX6_load 24 = .ok (.aload_n 0, 1) := by decide +kernel
theorem dX6_load_25 : decode cX6_load 25 = .ok (.getfield 39, 3) := by decide +kernel
theorem dX6_load_28 : decode cX6_load 28 = .ok (.aload_n 0, 1) := by decide +kernel
theorem dX6_load_29 : decode cX6_load 29 = .ok (.getfield 29, 3) := by decide +kernel
theorem dX6_load_32 : decode cX6_load 32 = .ok (.invokevirtual 157, 3) := by decide +kernel
theorem dX6_load_35 : decode cX6_load 35 = .ok (.ldc 95, 2) := by decide +kernel
theorem dX6_load_37 : decode cX6_load 37 = .ok (.if_icmp .eq 6, 3) := by decide +kernel
theorem dX6_load_40 : decode cX6_load 40 = .ok (.ldc 161, 2) := by decide +kernel
theorem dX6_load_42 : decode cX6_load 42 = .ok (.ireturn, 1) := by decide +kernel
theorem dX6_load_43 : decode cX6_load 43 = .ok (.aload_n 3, 1) := by decide +kernel
theorem dX6_load_44 : decode cX6_load 44 = .ok (.iload_n 1, 1) := by decide +kernel
theorem dX6_load_45 : decode cX6_load 45 = .ok (.invokevirtual 78, 3) := by decide +kernel
theorem dX6_load_48 : decode cX6_load 48 = .ok (.ifCond .ne 6, 3) := by decide +kernel
theorem dX6_load_51 : decode cX6_load 51 = .ok (.ldc 84, 2) := by decide +kernel
theorem dX6_load_53 : decode cX6_load 53 = .ok (.ireturn, 1) := by decide +kernel
theorem dX6_load_54 : decode cX6_load 54 = .ok (.aload_n 0, 1) := by decide +kernel
theorem dX6_load_55 : decode cX6_load 55 = .ok (.invokevirtual 71, 3) := by decide +kernel
theorem dX6_load_58 : decode cX6_load 58 = .ok (.aload_n 3, 1) := by decide +kernel
theorem dX6_load_59 : decode cX6_load 59 = .ok (.aload_n 0, 1) := by decide +kernel
theorem dX6_load_60 : decode cX6_load 60 = .ok (.getfield 39, 3) := by decide +kernel
theorem dX6_load_63 : decode cX6_load 63 = .ok (.getfield 162, 3) := by decide +kernel
theorem dX6_load_66 : decode cX6_load 66 = .ok (.invokevirtual 166, 3) := by decide +kernel
theorem dX6_load_69 : decode cX6_load 69 = .ok (.aload_n 3, 1) := by decide +kernel
theorem dX6_load_70 : decode cX6_load 70 = .ok (.invokevirtual 170, 3) := by decide +kernel
theorem dX6_load_73 : decode cX6_load 73 = .ok (.ireturn, 1) := by decide +kernel
theorem dX6_associate_0 : decode cX6_associate 0 = .ok (.iload_n 1, 1) := by decide +kernel
theorem dX6_associate_1 : decode cX6_associate 1 = .ok (.iconst 4, 1) := by decide +kernel
theorem dX6_associate_2 : decode cX6_associate 2 = .ok (.invokestatic 57, 3) := by decide +kernel
theorem dX6_associate_5 : decode cX6_associate 5 = .ok (.ifCond .ne 6, 3) := by decide +kernel
theorem dX6_associate_8 : decode cX6_associate 8 = .ok (.ldc 77, 2) := by decide +kernel
theorem dX6_associate_10 : decode cX6_associate 10 = .ok (.ireturn, 1) := by decide +kernel
theorem dX6_associate_11 : decode cX6_associate 11 = .ok (.aload_n 0, 1) := by decide +kernel
theorem dX6_associate_12 : decode cX6_associate 12 = .ok (.invokevirtual 71, 3) := by decide +kernel
theorem dX6_associate_15 : decode cX6_associate 15 = .ok (.aload_n 0, 1) := by decide +kernel
theorem dX6_associate_16 : decode cX6_associate 16 = .ok (.getfield 12, 3) := by decide +kernel
theorem dX6_associate_19 : decode cX6_associate 19 = .ok (.getfield 150, 3) := by decide +kernel
theorem dX6_associate_22 : decode cX6_associate 22 = .ok (.iload_n 1, 1) := by decide +kernel
theorem dX6_associate_23 : decode cX6_associate 23 = .ok (.iload_n 2, 1) := by decide +kernel
theorem dX6_associate_24 : decode cX6_associate 24 = .ok (.bastore, 1) := by decide +kernel
theorem dX6_associate_25 : decode cX6_associate 25 = .ok (.aload_n 0, 1) := by decide +kernel
theorem dX6_associate_26 : decode cX6_associate 26 = .ok (.getfield 12, 3) := by decide +kernel
theorem dX6_associate_29 : decode cX6_associate 29 = .ok (.invokevirtual 174, 3) := by decide +kernel
theorem dX6_associate_32 : decode cX6_associate 32 = .ok (.ireturn, 1) := by decide +kernel
theorem dX6_define_0 : decode cX6_define 0 = .ok (.iload_n 1, 1) := by decide +kernel
theorem dX6_define_1 : decode cX6_define 1 = .ok (.bipush 6, 2) := by decide +kernel
theorem dX6_define_3 : decode cX6_define 3 = .ok (.invokestatic 57, 3) := by decide +kernel
theorem dX6_define_6 : decode cX6_define 6 = .ok (.ifCond .eq 20, 3) := by decide +kernel
theorem dX6_define_9 : decode cX6_define 9 = .ok (.iload_n 3, 1) := by decide +kernel
theorem dX6_define_10 : decode cX6_define 10 = .ok (.iconst 4, 1) := by decide +kernel
theorem dX6_define_11 : decode cX6_define 11 = .ok (.invokestatic 57, 3) := by decide +kernel
theorem dX6_define_14 : decode cX6_define 14 = .ok (.ifCond .eq 12, 3) := by decide +kernel
theorem dX6_define_17 : decode cX6_define 17 = .ok (.iload 4, 2) := by decide +kernel
theorem dX6_define_19 : decode cX6_define 19 = .ok (.iconst 4, 1) := by decide +kernel
theorem dX6_define_20 : decode cX6_define 20 = .ok (.invokestatic 57, 3) := by decide +kernel
theorem dX6_define_23 : decode cX6_define 23 = .ok (.ifCond .ne 6, 3) := by decide +kernel
theorem dX6_define_26 : decode cX6_define 26 = .ok (.ldc 77, 2) := by decide +kernel
theorem dX6_define_28 : decode cX6_define 28 = .ok (.ireturn, 1) := by decide +kernel
theorem dX6_define_29 : decode cX6_define 29 = .ok (.iload_n 2, 1) := by decide +kernel
theorem dX6_define_30 : decode cX6_define 30 = .ok (.ifCond .lt 8, 3) := by decide +kernel
theorem dX6_define_33 : decode cX6_define 33 = .ok (.iload_n 2, 1) := by decide +kernel
theorem dX6_define_34 : decode cX6_define 34 = .ok (.iconst 4, 1) := by decide +kernel
theorem dX6_define_35 : decode cX6_define 35 = .ok (.if_icmp .le 6, 3) := by decide +kernel
theorem dX6_define_38 : decode cX6_define 38 = .ok (.ldc 61, 2) := by decide +kernel
theorem dX6_define_40 : decode cX6_define 40 = .ok (.ireturn, 1) := by decide +kernel
theorem dX6_define_41 : decode cX6_define 41 = .ok (.aload_n 0, 1) := by decide +kernel
theorem dX6_define_42 : decode cX6_define 42 = .ok (.getfield 12, 3) := by decide +kernel
theorem dX6_define_45 : decode cX6_define 45 = .ok (.getfield 177, 3) := by decide +kernel
theorem dX6_define_48 : decode cX6_define 48 = .ok (.iload_n 1, 1) := by decide +kernel
theorem dX6_define_49 : decode cX6_define 49 = .ok (.iaload, 1) := by decide +kernel
theorem dX6_define_50 : decode cX6_define 50 = .ok (.istore 5, 2) := by decide +kernel
theorem dX6_define_52 : decode cX6_define 52 = .ok (.aload_n 0, 1) := by decide +kernel
theorem dX6_define_53 : decode cX6_define 53 = .ok (.invokevirtual 71, 3) := by decide +kernel
theorem dX6_define_56 : decode cX6_define 56 = .ok (.aload_n 0, 1) := by decide +kernel
theorem dX6_define_57 : decode cX6_define 57 = .ok (.getfield 12, 3) := by decide +kernel
theorem dX6_define_60 : decode cX6_define 60 = .ok (.iload_n 1, 1) := by decide +kernel
theorem dX6_define_61 : decode cX6_define 61 = .ok (.iload_n 2, 1) := by decide +kernel
theorem dX6_define_62 : decode cX6_define 62 = .ok (.iload_n 3, 1) := by decide +kernel
theorem dX6_define_63 : decode cX6_define 63 = .ok (.iload 4, 2) := by decide +kernel
theorem dX6_define_65 : decode cX6_define 65 = .ok (.invokevirtual 181, 3) := by decide +kernel
theorem dX6_define_68 : decode cX6_define 68 = .ok (.iload 5, 2) := by decide +kernel
theorem dX6_define_70 : decode cX6_define 70 = .ok (.ireturn, 1) := by decide +kernel
theorem dX6_select_0 : decode cX6_select 0 = .ok (.iload_n 1, 1) := by decide +kernel
theorem dX6_select_1 : decode cX6_select 1 = .ok (.bipush 6, 2) := by decide +kernel
theorem dX6_select_3 : decode cX6_select 3 = .ok (.invokestatic 57, 3) := by decide +kernel
theorem dX6_select_6 : decode cX6_select 6 = .ok (.ifCond .eq 13, 3) := by decide +kernel
theorem dX6_select_9 : decode cX6_select 9 = .ok (.iload 5, 2) := by decide +kernel
theorem dX6_select_11 : decode cX6_select 11 = .ok (.bipush 8, 2) := by decide +kernel
theorem dX6_select_13 : decode cX6_select 13 = .ok (.invokestatic 57, 3) := by decide +kernel
theorem dX6_select_16 : decode cX6_select 16 = .ok (.ifCond .ne 6, 3) := by decide +kernel
theorem dX6_select_19 : decode cX6_select 19 = .ok (.ldc 77, 2) := by decide +kernel
theorem dX6_select_21 : decode cX6_select 21 = .ok (.ireturn, 1) := by decide +kernel
theorem dX6_select_22 : decode cX6_select 22 = .ok (.iload_n 2, 1) := by decide +kernel
theorem dX6_select_23 : decode cX6_select 23 = .ok (.ifCond .lt 20, 3) := by decide +kernel
theorem dX6_select_26 : decode cX6_select 26 = .ok (.iload_n 2, 1) := by decide +kernel
theorem dX6_select_27 : decode cX6_select 27 = .ok (.iconst 2, 1) := by decide +kernel
theorem dX6_select_28 : decode cX6_select 28 = .ok (.if_icmp .gt 15, 3) := by decide +kernel
theorem dX6_select_31 : decode cX6_select 31 = .ok (.iload_n 3, 1) := by decide +kernel
theorem dX6_select_32 : decode cX6_select 32 = .ok (.ldc 184, 2) := by decide +kernel
theorem dX6_select_34 : decode cX6_select 34 = .ok (.if_icmp .lt 9, 3) := by decide +kernel
theorem dX6_select_37 : decode cX6_select 37 = .ok (.iload_n 3, 1) := by decide +kernel
theorem dX6_select_38 : decode cX6_select 38 = .ok (.ldc 185, 2) := by decide +kernel
theorem dX6_select_40 : decode cX6_select 40 = .ok (.if_icmp .le 6, 3) := by decide +kernel
theorem dX6_select_43 : decode cX6_select 43 = .ok (.ldc 61, 2) := by decide +kernel
theorem dX6_select_45 : decode cX6_select 45 = .ok (.ireturn, 1) := by decide +kernel
theorem dX6_select_46 : decode cX6_select 46 = .ok (.aload_n 0, 1) := by decide +kernel
theorem dX6_select_47 : decode cX6_select 47 = .ok (.invokevirtual 71, 3) := by decide +kernel
theorem dX6_select_50 : decode cX6_select 50 = .ok (.aload_n 0, 1) := by decide +kernel
theorem dX6_select_51 : decode cX6_select 51 = .ok (.getfield 12, 3) := by decide +kernel
theorem dX6_select_54 : decode cX6_select 54 = .ok (.iload 5, 2) := by decide +kernel
theorem dX6_select_56 : decode cX6_select 56 = .ok (.invokevirtual 186, 3) := by decide +kernel
theorem dX6_select_59 : decode cX6_select 59 = .ok (.iconst 0, 1) := by decide +kernel
theorem dX6_select_60 : decode cX6_select 60 = .ok (.istore 6, 2) := by decide +kernel
theorem dX6_select_62 : decode cX6_select 62 = .ok (.iload 6, 2) := by decide +kernel
theorem dX6_select_64 : decode cX6_select 64 = .ok (.aload_n 0, 1) := by decide +kernel
theorem dX6_select_65 : decode cX6_select 65 = .ok (.getfield 12, 3) := by decide +kernel
theorem dX6_select_68 : decode cX6_select 68 = .ok (.getfield 67, 3) := by decide +kernel
theorem dX6_select_71 : decode cX6_select 71 = .ok (.if_icmp .ge 61, 3) := by decide +kernel
theorem dX6_select_74 : decode cX6_select 74 = .ok (.aload_n 0, 1) := by decide +kernel
theorem dX6_select_75 : decode cX6_select 75 = .ok (.getfield 12, 3) := by decide +kernel
theorem dX6_select_78 : decode cX6_select 78 = .ok (.getfield 189, 3) := by decide +kernel
theorem dX6_select_81 : decode cX6_select 81 = .ok (.iload 6, 2) := by decide +kernel
theorem dX6_select_83 : decode cX6_select 83 = .ok (.aaload, 1) := by decide +kernel
theorem dX6_select_84 : decode cX6_select 84 = .ok (.astore 7, 2) := by decide +kernel
theorem dX6_select_86 : decode cX6_select 86 = .ok (.aload_n 0, 1) := by decide +kernel
theorem dX6_select_87 : decode cX6_select 87 = .ok (.getfield 12, 3) := by decide +kernel
theorem dX6_select_90 : decode cX6_select 90 = .ok (.aload 7, 2) := by decide +kernel
theorem dX6_select_92 : decode cX6_select 92 = .ok (.iload_n 1, 1) := by decide +kernel
theorem dX6_select_93 : decode cX6_select 93 = .ok (.aload_n 0, 1) := by decide +kernel
theorem dX6_select_94 : decode cX6_select 94 = .ok (.getfield 46, 3) := by decide +kernel
theorem dX6_select_97 : decode cX6_select 97 = .ok (.invokevirtual 193, 3) := by decide +kernel
theorem dX6_select_100 : decode cX6_select 100 = .ok (.aload_n 0, 1) := by decide +kernel
theorem dX6_select_101 : decode cX6_select 101 = .ok (.iload_n 2, 1) := by decide +kernel
theorem dX6_select_102 : decode cX6_select 102 = .ok (.iload_n 3, 1) := by decide +kernel
theorem dX6_select_103 : decode cX6_select 103 = .ok (.iload 4, 2) := by decide +kernel
theorem dX6_select_105 : decode cX6_select 105 = .ok (.invokevirtual 197, 3) := by decide +kernel
theorem dX6_select_108 : decode cX6_select 108 = .ok (.ifCond .eq 18, 3) := by decide +kernel
theorem dX6_select_111 : decode cX6_select 111 = .ok (.aload_n 0, 1) := by decide +kernel
theorem dX6_select_112 : decode cX6_select 112 = .ok (.getfield 12, 3) := by decide +kernel
theorem dX6_select_115 : decode cX6_select 115 = .ok (.iload 5, 2) := by decide +kernel
theorem dX6_select_117 : decode cX6_select 117 = .ok (.aload 7, 2) := by decide +kernel
theorem dX6_select_119 : decode cX6_select 119 = .ok (.getfield 201, 3) := by decide +kernel
theorem dX6_select_122 : decode cX6_select 122 = .ok (.iconst 1, 1) := by decide +kernel
theorem dX6_select_123 : decode cX6_select 123 = .ok (.invokevirtual 204, 3) := by decide +kernel
theorem dX6_select_126 : decode cX6_select 126 = .ok (.iinc 6 1, 3) := by decide +kernel
theorem dX6_select_129 : decode cX6_select 129 = .ok (.goto (-67), 3) := by decide +kernel
theorem dX6_select_132 : decode cX6_select 132 = .ok (.aload_n 0, 1) := by decide +kernel
theorem dX6_select_133 : decode cX6_select 133 = .ok (.getfield 12, 3) := by decide +kernel
theorem dX6_select_136 : decode cX6_select 136 = .ok (.iload 5, 2) := by decide +kernel
theorem dX6_select_138 : decode cX6_select 138 = .ok (.invokevirtual 208, 3) := by decide +kernel
theorem dX6_select_141 : decode cX6_select 141 = .ok (.ireturn, 1) := by decide +kernel
theorem dX6_isSelected_0 : decode cX6_isSelected 0 = .ok (.iconst 0, 1) := by decide +kernel
theorem dX6_isSelected_1 : decode cX6_isSelected 1 = .ok (.istore 4, 2) := by decide +kernel
theorem dX6_isSelected_3 : decode cX6_isSelected 3 = .ok (.iconst 0, 1) := by decide +kernel
theorem dX6_isSelected_4 : decode cX6_isSelected 4 = .ok (.istore 5, 2) := by decide +kernel
theorem dX6_isSelected_6 : decode cX6_isSelected 6 = .ok (.iload 5, 2) := by decide +kernel
theorem dX6_isSelected_8 : decode cX6_isSelected 8 = .ok (.aload_n 0, 1) := by decide +kernel
theorem dX6_isSelected_9 : decode cX6_isSelected 9 = .ok (.getfield 46, 3) := by decide +kernel
theorem dX6_isSelected_12 : decode cX6_isSelected 12 = .ok (.getfield 211, 3) := by decide +kernel
theorem dX6_isSelected_15 : decode cX6_isSelected 15 = .ok (.if_icmp .ge 29, 3) := by decide +kernel
theorem dX6_isSelected_18 : decode cX6_isSelected 18 = .ok (.aload_n 0, 1) := by decide +kernel
theorem dX6_isSelected_19 : decode cX6_isSelected 19 = .ok (.getfield 46, 3) := by decide +kernel
theorem dX6_isSelected_22 : decode cX6_isSelected 22 = .ok (.iload 5, 2) := by decide +kernel
theorem dX6_isSelected_24 : decode cX6_isSelected 24 = .ok (.invokevirtual 214, 3) := by decide +kernel
theorem dX6_isSelected_27 : decode cX6_isSelected 27 = .ok (.iload_n 1, 1) := by decide +kernel
theorem dX6_isSelected_28 : decode cX6_isSelected 28 = .ok (.iload_n 2, 1) := by decide +kernel
theorem dX6_isSelected_29 : decode cX6_isSelected 29 = .ok (.invokestatic 217, 3) := by decide +kernel
theorem dX6_isSelected_32 : decode cX6_isSelected 32 = .ok (.ifCond .eq 6, 3) := by decide +kernel
theorem dX6_isSelected_35 : decode cX6_isSelected 35 = .ok (.iinc 4 1, 3) := by decide +kernel
theorem dX6_isSelected_38 : decode cX6_isSelected 38 = .ok (.iinc 5 1, 3) := by decide +kernel
theorem dX6_isSelected_41 : decode cX6_isSelected 41 = .ok (.goto (-35), 3) := by decide +kernel
theorem dX6_isSelected_44 : decode cX6_isSelected 44 = .ok (.iload 4, 2) := by decide +kernel
theorem dX6_isSelected_46 : decode cX6_isSelected 46 = .ok (.ifCond .le 23, 3) := by decide +kernel
theorem dX6_isSelected_49 : decode cX6_isSelected 49 = .ok (.iload_n 3, 1) := by decide +kernel
theorem dX6_isSelected_50 : decode cX6_isSelected 50 = .ok (.ifCond .eq 15, 3) := by decide +kernel
theorem dX6_isSelected_53 : decode cX6_isSelected 53 = .ok (.iload 4, 2) := by decide +kernel
theorem dX6_isSelected_55 : decode cX6_isSelected 55 = .ok (.aload_n 0, 1) := by decide +kernel
theorem dX6_isSelected_56 : decode cX6_isSelected 56 = .ok (.getfield 46, 3) := by decide +kernel
theorem dX6_isSelected_59 : decode cX6_isSelected 59 = .ok (.getfield 211, 3) := by decide +kernel
theorem dX6_isSelected_62 : decode cX6_isSelected 62 = .ok (.if_icmp .ne 7, 3) := by decide +kernel
theorem dX6_isSelected_65 : decode cX6_isSelected 65 = .ok (.iconst 1, 1) := by decide +kernel
theorem dX6_isSelected_66 : decode cX6_isSelected 66 = .ok (.goto 4, 3) := by decide +kernel
theorem dX6_isSelected_69 : decode cX6_isSelected 69 = .ok (.iconst 0, 1) := by decide +kernel
theorem dX6_isSelected_70 : decode cX6_isSelected 70 = .ok (.ireturn, 1) := by decide +kernel
theorem dX6_passes_0 : decode cX6_passes 0 = .ok (.iload_n 1, 1) := by decide +kernel
theorem dX6_passes_1 : decode cX6_passes 1 = .ok (.lookupswitch 49 #[(0, 27), (1, 38)], 27) := by decide +kernel
theorem dX6_passes_28 : decode cX6_passes 28 = .ok (.iload_n 0, 1) := by decide +kernel
theorem dX6_passes_29 : decode cX6_passes 29 = .ok (.iload_n 2, 1) := by decide +kernel
theorem dX6_passes_30 : decode cX6_passes 30 = .ok (.if_icmp .ge 7, 3) := by decide +kernel
theorem dX6_passes_33 : decode cX6_passes 33 = .ok (.iconst 1, 1) := by decide +kernel
theorem dX6_passes_34 : decode cX6_passes 34 = .ok (.goto 4, 3) := by decide +kernel
theorem dX6_passes_37 : decode cX6_passes 37 = .ok (.iconst 0, 1) := by decide +kernel
theorem dX6_passes_38 : decode cX6_passes 38 = .ok (.ireturn, 1) := by decide +kernel
theorem dX6_passes_39 : decode cX6_passes 39 = .ok (.iload_n 0, 1) := by decide +kernel
theorem dX6_passes_40 : decode cX6_passes 40 = .ok (.iload_n 2, 1) := by decide +kernel
theorem dX6_passes_41 : decode cX6_passes 41 = .ok (.if_icmp .ne 7, 3) := by decide +kernel
theorem dX6_passes_44 : decode cX6_passes 44 = .ok (.iconst 1, 1) := by decide +kernel
theorem dX6_passes_45 : decode cX6_passes 45 = .ok (.goto 4, 3) := by decide +kernel
theorem dX6_passes_48 : decode cX6_passes 48 = .ok (.iconst 0, 1) := by decide +kernel
theorem dX6_passes_49 : decode cX6_passes 49 = .ok (.ireturn, 1) := by decide +kernel
theorem dX6_passes_50 : decode cX6_passes 50 = .ok (.iload_n 0, 1) := by decide +kernel
theorem dX6_passes_51 : decode cX6_passes 51 = .ok (.iload_n 2, 1) := by decide +kernel
theorem dX6_passes_52 : decode cX6_passes 52 = .ok (.if_icmp .le 7, 3) := by decide +kernel
theorem dX6_passes_55 : decode cX6_passes 55 = .ok (.iconst 1, 1) := by decide +kernel
theorem dX6_passes_56 : decode cX6_passes 56 = .ok (.goto 4, 3) := by decide +kernel
theorem dX6_passes_59 : decode cX6_passes 59 = .ok (.iconst 0, 1) := by decide +kernel
theorem dX6_passes_60 : decode cX6_passes 60 = .ok (.ireturn, 1) := by decide +kernel
theorem dX6_combine_0 : decode cX6_combine 0 = .ok (.iload_n 2, 1) := by decide +kernel
theorem dX6_combine_1 : decode cX6_combine 1 = .ok (.bipush 8, 2) := by decide +kernel
theorem dX6_combine_3 : decode cX6_combine 3 = .ok (.invokestatic 57, 3) := by decide +kernel
theorem dX6_combine_6 : decode cX6_combine 6 = .ok (.ifCond .eq 22, 3) := by decide +kernel
theorem dX6_combine_9 : decode cX6_combine 9 = .ok (.iload_n 3, 1) := by decide +kernel
theorem dX6_combine_10 : decode cX6_combine 10 = .ok (.bipush 8, 2) := by decide +kernel
theorem dX6_combine_12 : decode cX6_combine 12 = .ok (.invokestatic 57, 3) := by decide +kernel
theorem dX6_combine_15 : decode cX6_combine 15 = .ok (.ifCond .eq 13, 3) := by decide +kernel
theorem dX6_combine_18 : decode cX6_combine 18 = .ok (.iload 4, 2) := by decide +kernel
theorem dX6_combine_20 : decode cX6_combine 20 = .ok (.bipush 8, 2) := by decide +kernel
theorem dX6_combine_22 : decode cX6_combine 22 = .ok (.invokestatic 57, 3) := by decide +kernel
theorem dX6_combine_25 : decode cX6_combine 25 = .ok (.ifCond .ne 6, 3) := by decide +kernel
theorem dX6_combine_28 : decode cX6_combine 28 = .ok (.ldc 77, 2) := by decide +kernel
theorem dX6_combine_30 : decode cX6_combine 30 = .ok (.ireturn, 1) := by decide +kernel
theorem dX6_combine_31 : decode cX6_combine 31 = .ok (.iload_n 1, 1) := by decide +kernel
theorem dX6_combine_32 : decode cX6_combine 32 = .ok (.ifCond .lt 8, 3) := by decide +kernel
theorem dX6_combine_35 : decode cX6_combine 35 = .ok (.iload_n 1, 1) := by decide +kernel
theorem dX6_combine_36 : decode cX6_combine 36 = .ok (.iconst 2, 1) := by decide +kernel
theorem dX6_combine_37 : decode cX6_combine 37 = .ok (.if_icmp .le 6, 3) := by decide +kernel
theorem dX6_combine_40 : decode cX6_combine 40 = .ok (.ldc 61, 2) := by decide +kernel
theorem dX6_combine_42 : decode cX6_combine 42 = .ok (.ireturn, 1) := by decide +kernel
theorem dX6_combine_43 : decode cX6_combine 43 = .ok (.aload_n 0, 1) := by decide +kernel
theorem dX6_combine_44 : decode cX6_combine 44 = .ok (.invokevirtual 71, 3) := by decide +kernel
theorem dX6_combine_47 : decode cX6_combine 47 = .ok (.iconst 0, 1) := by decide +kernel
theorem dX6_combine_48 : decode cX6_combine 48 = .ok (.istore 5, 2) := by decide +kernel
theorem dX6_combine_50 : decode cX6_combine 50 = .ok (.iload 5, 2) := by decide +kernel
theorem dX6_combine_52 : decode cX6_combine 52 = .ok (.bipush 100, 2) := by decide +kernel
theorem dX6_combine_54 : decode cX6_combine 54 = .ok (.if_icmp .ge 48, 3) := by decide +kernel
theorem dX6_combine_57 : decode cX6_combine 57 = .ok (.iload_n 1, 1) := by decide +kernel
theorem dX6_combine_58 : decode cX6_combine 58 = .ok (.aload_n 0, 1) := by decide +kernel
theorem dX6_combine_59 : decode cX6_combine 59 = .ok (.getfield 12, 3) := by decide +kernel
theorem dX6_combine_62 : decode cX6_combine 62 = .ok (.iload_n 2, 1) := by decide +kernel
theorem dX6_combine_63 : decode cX6_combine 63 = .ok (.iload 5, 2) := by decide +kernel
theorem dX6_combine_65 : decode cX6_combine 65 = .ok (.invokevirtual 220, 3) := by decide +kernel
theorem dX6_combine_68 : decode cX6_combine 68 = .ok (.aload_n 0, 1) := by decide +kernel
theorem dX6_combine_69 : decode cX6_combine 69 = .ok (.getfield 12, 3) := by decide +kernel
theorem dX6_combine_72 : decode cX6_combine 72 = .ok (.iload_n 3, 1) := by decide +kernel
theorem dX6_combine_73 : decode cX6_combine 73 = .ok (.iload 5, 2) := by decide +kernel
theorem dX6_combine_75 : decode cX6_combine 75 = .ok (.invokevirtual 220, 3) := by decide +kernel
theorem dX6_combine_78 : decode cX6_combine 78 = .ok (.invokestatic 223, 3) := by decide +kernel
theorem dX6_combine_81 : decode cX6_combine 81 = .ok (.istore 6, 2) := by decide +kernel
theorem dX6_combine_83 : decode cX6_combine 83 = .ok (.aload_n 0, 1) := by decide +kernel
theorem dX6_combine_84 : decode cX6_combine 84 = .ok (.getfield 12, 3) := by decide +kernel
theorem dX6_combine_87 : decode cX6_combine 87 = .ok (.iload 4, 2) := by decide +kernel
theorem dX6_combine_89 : decode cX6_combine 89 = .ok (.iload 5, 2) := by decide +kernel
theorem dX6_combine_91 : decode cX6_combine 91 = .ok (.iload 6, 2) := by decide +kernel
theorem dX6_combine_93 : decode cX6_combine 93 = .ok (.invokevirtual 204, 3) := by decide +kernel
theorem dX6_combine_96 : decode cX6_combine 96 = .ok (.iinc 5 1, 3) := by decide +kernel
theorem dX6_combine_99 : decode cX6_combine 99 = .ok (.goto (-49), 3) := by decide +kernel
theorem dX6_combine_102 : decode cX6_combine 102 = .ok (.aload_n 0, 1) := by decide +kernel
theorem dX6_combine_103 : decode cX6_combine 103 = .ok (.getfield 12, 3) := by decide +kernel
theorem dX6_combine_106 : decode cX6_combine 106 = .ok (.iload 4, 2) := by decide +kernel
theorem dX6_combine_108 : decode cX6_combine 108 = .ok (.invokevirtual 208, 3) := by decide +kernel
theorem dX6_combine_111 : decode cX6_combine 111 = .ok (.ireturn, 1) := by decide +kernel
theorem dX6_isCombined_0 : decode cX6_isCombined 0 = .ok (.iload_n 0, 1) := by decide +kernel
theorem dX6_isCombined_1 : decode cX6_isCombined 1 = .ok (.lookupswitch 55 #[(0, 27), (1, 41)], 27) := by decide +kernel
theorem dX6_isCombined_28 : decode cX6_isCombined 28 = .ok (.iload_n 1, 1) := by decide +kernel
theorem dX6_isCombined_29 : decode cX6_isCombined 29 = .ok (.ifCond .eq 11, 3) := by decide +kernel
theorem dX6_isCombined_32 : decode cX6_isCombined 32 = .ok (.iload_n 2, 1) := by decide +kernel
theorem dX6_isCombined_33 : decode cX6_isCombined 33 = .ok (.ifCond .eq 7, 3) := by decide +kernel
theorem dX6_isCombined_36 : decode cX6_isCombined 36 = .ok (.iconst 1, 1) := by decide +kernel
theorem dX6_isCombined_37 : decode cX6_isCombined 37 = .ok (.goto 4, 3) := by decide +kernel
theorem dX6_isCombined_40 : decode cX6_isCombined 40 = .ok (.iconst 0, 1) := by decide +kernel
end
section
theorem dX6_isCombined_41 : decode cX6_isCombined 41 = .ok (.ireturn, 1) := by decide +kernel
theorem dX6_isCombined_42 : decode cX6_isCombined 42 = .ok (.iload_n 1, 1) := by decide +kernel
theorem dX6_isCombined_43 : decode cX6_isCombined 43 = .ok (.ifCond .ne 7, 3) := by decide +kernel
theorem dX6_isCombined_46 : decode cX6_isCombined 46 = .ok (.iload_n 2, 1) := by decide +kernel
theorem dX6_isCombined_47 : decode cX6_isCombined 47 = .ok (.ifCond .eq 7, 3) := by decide +kernel
theorem dX6_isCombined_50 : decode cX6_isCombined 50 = .ok (.iconst 1, 1) := by decide +kernel
theorem dX6_isCombined_51 : decode cX6_isCombined 51 = .ok (.goto 4, 3) := by decide +kernel
theorem dX6_isCombined_54 : decode cX6_isCombined 54 = .ok (.iconst 0, 1) := by decide +kernel
theorem dX6_isCombined_55 : decode cX6_isCombined 55 = .ok (.ireturn, 1) := by decide +kernel
theorem dX6_isCombined_56 : decode cX6_isCombined 56 = .ok (.iload_n 1, 1) := by decide +kernel
theorem dX6_isCombined_57 : decode cX6_isCombined 57 = .ok (.ifCond .eq 11, 3) := by decide +kernel
theorem dX6_isCombined_60 : decode cX6_isCombined 60 = .ok (.iload_n 2, 1) := by decide +kernel
theorem dX6_isCombined_61 : decode cX6_isCombined 61 = .ok (.ifCond .ne 7, 3) := by decide +kernel
theorem dX6_isCombined_64 : decode cX6_isCombined 64 = .ok (.iconst 1, 1) := by decide +kernel
theorem dX6_isCombined_65 : decode cX6_isCombined 65 = .ok (.goto 4, 3) := by decide +kernel
theorem dX6_isCombined_68 : decode cX6_isCombined 68 = .ok (.iconst 0, 1) := by decide +kernel
theorem dX6_isCombined_69 : decode cX6_isCombined 69 = .ok (.ireturn, 1) := by decide +kernel
theorem dX6_clearList_0 : decode cX6_clearList 0 = .ok (.iload_n 1, 1) := by decide +kernel
theorem dX6_clearList_1 : decode cX6_clearList 1 = .ok (.bipush 8, 2) := by decide +kernel
theorem dX6_clearList_3 : decode cX6_clearList 3 = .ok (.invokestatic 57, 3) := by decide +kernel
theorem dX6_clearList_6 : decode cX6_clearList 6 = .ok (.ifCond .ne 6, 3) := by decide +kernel
theorem dX6_clearList_9 : decode cX6_clearList 9 = .ok (.ldc 77, 2) := by decide +kernel
theorem dX6_clearList_11 : decode cX6_clearList 11 = .ok (.ireturn, 1) := by decide +kernel
theorem dX6_clearList_12 : decode cX6_clearList 12 = .ok (.aload_n 0, 1) := by decide +kernel
theorem dX6_clearList_13 : decode cX6_clearList 13 = .ok (.getfield 12, 3) := by decide +kernel
theorem dX6_clearList_16 : decode cX6_clearList 16 = .ok (.iload_n 1, 1) := by decide +kernel
theorem dX6_clearList_17 : decode cX6_clearList 17 = .ok (.invokevirtual 208, 3) := by decide +kernel
theorem dX6_clearList_20 : decode cX6_clearList 20 = .ok (.istore_n 2, 1) := by decide +kernel
theorem dX6_clearList_21 : decode cX6_clearList 21 = .ok (.aload_n 0, 1) := by decide +kernel
theorem dX6_clearList_22 : decode cX6_clearList 22 = .ok (.invokevirtual 71, 3) := by decide +kernel
theorem dX6_clearList_25 : decode cX6_clearList 25 = .ok (.aload_n 0, 1) := by decide +kernel
theorem dX6_clearList_26 : decode cX6_clearList 26 = .ok (.getfield 12, 3) := by decide +kernel
theorem dX6_clearList_29 : decode cX6_clearList 29 = .ok (.iload_n 1, 1) := by decide +kernel
theorem dX6_clearList_30 : decode cX6_clearList 30 = .ok (.invokevirtual 186, 3) := by decide +kernel
theorem dX6_clearList_33 : decode cX6_clearList 33 = .ok (.iload_n 2, 1) := by decide +kernel
theorem dX6_clearList_34 : decode cX6_clearList 34 = .ok (.ireturn, 1) := by decide +kernel
theorem dX6_append_0 : decode cX6_append 0 = .ok (.iload_n 1, 1) := by decide +kernel
theorem dX6_append_1 : decode cX6_append 1 = .ok (.bipush 32, 2) := by decide +kernel
theorem dX6_append_3 : decode cX6_append 3 = .ok (.if_icmp .lt 9, 3) := by decide +kernel
theorem dX6_append_6 : decode cX6_append 6 = .ok (.iload_n 1, 1) := by decide +kernel
theorem dX6_append_7 : decode cX6_append 7 = .ok (.bipush 126, 2) := by decide +kernel
theorem dX6_append_9 : decode cX6_append 9 = .ok (.if_icmp .le 6, 3) := by decide +kernel
theorem dX6_append_12 : decode cX6_append 12 = .ok (.ldc 61, 2) := by decide +kernel
theorem dX6_append_14 : decode cX6_append 14 = .ok (.ireturn, 1) := by decide +kernel
theorem dX6_append_15 : decode cX6_append 15 = .ok (.aload_n 0, 1) := by decide +kernel
theorem dX6_append_16 : decode cX6_append 16 = .ok (.getfield 29, 3) := by decide +kernel
theorem dX6_append_19 : decode cX6_append 19 = .ok (.getfield 227, 3) := by decide +kernel
theorem dX6_append_22 : decode cX6_append 22 = .ok (.bipush 90, 2) := by decide +kernel
theorem dX6_append_24 : decode cX6_append 24 = .ok (.if_icmp .lt 6, 3) := by decide +kernel
theorem dX6_append_27 : decode cX6_append 27 = .ok (.ldc 70, 2) := by decide +kernel
theorem dX6_append_29 : decode cX6_append 29 = .ok (.ireturn, 1) := by decide +kernel
theorem dX6_append_30 : decode cX6_append 30 = .ok (.aload_n 0, 1) := by decide +kernel
theorem dX6_append_31 : decode cX6_append 31 = .ok (.getfield 29, 3) := by decide +kernel
theorem dX6_append_34 : decode cX6_append 34 = .ok (.iload_n 1, 1) := by decide +kernel
theorem dX6_append_35 : decode cX6_append 35 = .ok (.invokevirtual 230, 3) := by decide +kernel
theorem dX6_append_38 : decode cX6_append 38 = .ok (.aload_n 0, 1) := by decide +kernel
theorem dX6_append_39 : decode cX6_append 39 = .ok (.getfield 29, 3) := by decide +kernel
theorem dX6_append_42 : decode cX6_append 42 = .ok (.getfield 227, 3) := by decide +kernel
theorem dX6_append_45 : decode cX6_append 45 = .ok (.ireturn, 1) := by decide +kernel
theorem dX6_clearText_0 : decode cX6_clearText 0 = .ok (.aload_n 0, 1) := by decide +kernel
theorem dX6_clearText_1 : decode cX6_clearText 1 = .ok (.getfield 29, 3) := by decide +kernel
theorem dX6_clearText_4 : decode cX6_clearText 4 = .ok (.getfield 227, 3) := by decide +kernel
theorem dX6_clearText_7 : decode cX6_clearText 7 = .ok (.istore_n 1, 1) := by decide +kernel
theorem dX6_clearText_8 : decode cX6_clearText 8 = .ok (.aload_n 0, 1) := by decide +kernel
theorem dX6_clearText_9 : decode cX6_clearText 9 = .ok (.getfield 29, 3) := by decide +kernel
theorem dX6_clearText_12 : decode cX6_clearText 12 = .ok (.iconst 0, 1) := by decide +kernel
theorem dX6_clearText_13 : decode cX6_clearText 13 = .ok (.putfield 227, 3) := by decide +kernel
theorem dX6_clearText_16 : decode cX6_clearText 16 = .ok (.iload_n 1, 1) := by decide +kernel
theorem dX6_clearText_17 : decode cX6_clearText 17 = .ok (.ireturn, 1) := by decide +kernel
theorem dX6_fault_0 : decode cX6_fault 0 = .ok (.aload_n 0, 1) := by decide +kernel
theorem dX6_fault_1 : decode cX6_fault 1 = .ok (.getfield 39, 3) := by decide +kernel
theorem dX6_fault_4 : decode cX6_fault 4 = .ok (.aload_n 0, 1) := by decide +kernel
theorem dX6_fault_5 : decode cX6_fault 5 = .ok (.getfield 29, 3) := by decide +kernel
theorem dX6_fault_8 : decode cX6_fault 8 = .ok (.invokevirtual 157, 3) := by decide +kernel
theorem dX6_fault_11 : decode cX6_fault 11 = .ok (.ireturn, 1) := by decide +kernel
theorem dX6_print_0 : decode cX6_print 0 = .ok (.aload_n 0, 1) := by decide +kernel
theorem dX6_print_1 : decode cX6_print 1 = .ok (.getfield 12, 3) := by decide +kernel
theorem dX6_print_4 : decode cX6_print 4 = .ok (.iload_n 1, 1) := by decide +kernel
theorem dX6_print_5 : decode cX6_print 5 = .ok (.invokevirtual 62, 3) := by decide +kernel
theorem dX6_print_8 : decode cX6_print 8 = .ok (.astore_n 2, 1) := by decide +kernel
theorem dX6_print_9 : decode cX6_print 9 = .ok (.aload_n 2, 1) := by decide +kernel
theorem dX6_print_10 : decode cX6_print 10 = .ok (.ifnonnull 6, 3) := by decide +kernel
theorem dX6_print_13 : decode cX6_print 13 = .ok (.ldc 77, 2) := by decide +kernel
theorem dX6_print_15 : decode cX6_print 15 = .ok (.ireturn, 1) := by decide +kernel
theorem dX6_print_16 : decode cX6_print 16 = .ok (.aload_n 0, 1) := by decide +kernel
theorem dX6_print_17 : decode cX6_print 17 = .ok (.getfield 33, 3) := by decide +kernel
theorem dX6_print_20 : decode cX6_print 20 = .ok (.iconst 0, 1) := by decide +kernel
theorem dX6_print_21 : decode cX6_print 21 = .ok (.putfield 227, 3) := by decide +kernel
theorem dX6_print_24 : decode cX6_print 24 = .ok (.iconst 0, 1) := by decide +kernel
theorem dX6_print_25 : decode cX6_print 25 = .ok (.istore_n 3, 1) := by decide +kernel
theorem dX6_print_26 : decode cX6_print 26 = .ok (.iload_n 3, 1) := by decide +kernel
theorem dX6_print_27 : decode cX6_print 27 = .ok (.iconst 4, 1) := by decide +kernel
theorem dX6_print_28 : decode cX6_print 28 = .ok (.if_icmp .ge 28, 3) := by decide +kernel
theorem dX6_print_31 : decode cX6_print 31 = .ok (.iload_n 3, 1) := by decide +kernel
theorem dX6_print_32 : decode cX6_print 32 = .ok (.ifCond .le 12, 3) := by decide +kernel
theorem dX6_print_35 : decode cX6_print 35 = .ok (.aload_n 0, 1) := by decide +kernel
theorem dX6_print_36 : decode cX6_print 36 = .ok (.getfield 33, 3) := by decide +kernel
theorem dX6_print_39 : decode cX6_print 39 = .ok (.bipush 94, 2) := by decide +kernel
theorem dX6_print_41 : decode cX6_print 41 = .ok (.invokevirtual 230, 3) := by decide +kernel
theorem dX6_print_44 : decode cX6_print 44 = .ok (.aload_n 0, 1) := by decide +kernel
theorem dX6_print_45 : decode cX6_print 45 = .ok (.aload_n 2, 1) := by decide +kernel
theorem dX6_print_46 : decode cX6_print 46 = .ok (.iload_n 3, 1) := by decide +kernel
theorem dX6_print_47 : decode cX6_print 47 = .ok (.invokevirtual 233, 3) := by decide +kernel
theorem dX6_print_50 : decode cX6_print 50 = .ok (.iinc 3 1, 3) := by decide +kernel
theorem dX6_print_53 : decode cX6_print 53 = .ok (.goto (-27), 3) := by decide +kernel
theorem dX6_print_56 : decode cX6_print 56 = .ok (.aload_n 0, 1) := by decide +kernel
theorem dX6_print_57 : decode cX6_print 57 = .ok (.getfield 33, 3) := by decide +kernel
theorem dX6_print_60 : decode cX6_print 60 = .ok (.getfield 227, 3) := by decide +kernel
theorem dX6_print_63 : decode cX6_print 63 = .ok (.ireturn, 1) := by decide +kernel
theorem dX6_printField_0 : decode cX6_printField 0 = .ok (.iconst 0, 1) := by decide +kernel
theorem dX6_printField_1 : decode cX6_printField 1 = .ok (.istore_n 3, 1) := by decide +kernel
theorem dX6_printField_2 : decode cX6_printField 2 = .ok (.iload_n 3, 1) := by decide +kernel
theorem dX6_printField_3 : decode cX6_printField 3 = .ok (.aload_n 1, 1) := by decide +kernel
theorem dX6_printField_4 : decode cX6_printField 4 = .ok (.iload_n 2, 1) := by decide +kernel
theorem dX6_printField_5 : decode cX6_printField 5 = .ok (.invokevirtual 111, 3) := by decide +kernel
theorem dX6_printField_8 : decode cX6_printField 8 = .ok (.if_icmp .ge 74, 3) := by decide +kernel
theorem dX6_printField_11 : decode cX6_printField 11 = .ok (.iconst 0, 1) := by decide +kernel
theorem dX6_printField_12 : decode cX6_printField 12 = .ok (.istore 4, 2) := by decide +kernel
theorem dX6_printField_14 : decode cX6_printField 14 = .ok (.iload 4, 2) := by decide +kernel
theorem dX6_printField_16 : decode cX6_printField 16 = .ok (.aload_n 1, 1) := by decide +kernel
theorem dX6_printField_17 : decode cX6_printField 17 = .ok (.iload_n 2, 1) := by decide +kernel
theorem dX6_printField_18 : decode cX6_printField 18 = .ok (.iload_n 3, 1) := by decide +kernel
theorem dX6_printField_19 : decode cX6_printField 19 = .ok (.invokevirtual 118, 3) := by decide +kernel
theorem dX6_printField_22 : decode cX6_printField 22 = .ok (.if_icmp .ge 54, 3) := by decide +kernel
theorem dX6_printField_25 : decode cX6_printField 25 = .ok (.iload 4, 2) := by decide +kernel
theorem dX6_printField_27 : decode cX6_printField 27 = .ok (.ifCond .le 15, 3) := by decide +kernel
theorem dX6_printField_30 : decode cX6_printField 30 = .ok (.aload_n 0, 1) := by decide +kernel
theorem dX6_printField_31 : decode cX6_printField 31 = .ok (.getfield 33, 3) := by decide +kernel
theorem dX6_printField_34 : decode cX6_printField 34 = .ok (.bipush 47, 2) := by decide +kernel
theorem dX6_printField_36 : decode cX6_printField 36 = .ok (.invokevirtual 230, 3) := by decide +kernel
theorem dX6_printField_39 : decode cX6_printField 39 = .ok (.goto 16, 3) := by decide +kernel
theorem dX6_printField_42 : decode cX6_printField 42 = .ok (.iload_n 3, 1) := by decide +kernel
theorem dX6_printField_43 : decode cX6_printField 43 = .ok (.ifCond .le 12, 3) := by decide +kernel
theorem dX6_printField_46 : decode cX6_printField 46 = .ok (.aload_n 0, 1) := by decide +kernel
theorem dX6_printField_47 : decode cX6_printField 47 = .ok (.getfield 33, 3) := by decide +kernel
theorem dX6_printField_50 : decode cX6_printField 50 = .ok (.bipush 93, 2) := by decide +kernel
theorem dX6_printField_52 : decode cX6_printField 52 = .ok (.invokevirtual 230, 3) := by decide +kernel
theorem dX6_printField_55 : decode cX6_printField 55 = .ok (.aload_n 0, 1) := by decide +kernel
theorem dX6_printField_56 : decode cX6_printField 56 = .ok (.getfield 33, 3) := by decide +kernel
theorem dX6_printField_59 : decode cX6_printField 59 = .ok (.aload_n 1, 1) := by decide +kernel
theorem dX6_printField_60 : decode cX6_printField 60 = .ok (.iload_n 2, 1) := by decide +kernel
theorem dX6_printField_61 : decode cX6_printField 61 = .ok (.iload_n 3, 1) := by decide +kernel
theorem dX6_printField_62 : decode cX6_printField 62 = .ok (.iload 4, 2) := by decide +kernel
theorem dX6_printField_64 : decode cX6_printField 64 = .ok (.invokevirtual 129, 3) := by decide +kernel
theorem dX6_printField_67 : decode cX6_printField 67 = .ok (.invokevirtual 237, 3) := by decide +kernel
theorem dX6_printField_70 : decode cX6_printField 70 = .ok (.iinc 4 1, 3) := by decide +kernel
theorem dX6_printField_73 : decode cX6_printField 73 = .ok (.goto (-59), 3) := by decide +kernel
theorem dX6_printField_76 : decode cX6_printField 76 = .ok (.iinc 3 1, 3) := by decide +kernel
theorem dX6_printField_79 : decode cX6_printField 79 = .ok (.goto (-77), 3) := by decide +kernel
theorem dX6_printField_82 : decode cX6_printField 82 = .ok (.return_, 1) := by decide +kernel
theorem dX6_printed_0 : decode cX6_printed 0 = .ok (.iload_n 1, 1) := by decide +kernel
theorem dX6_printed_1 : decode cX6_printed 1 = .ok (.ifCond .ge 6, 3) := by decide +kernel
theorem dX6_printed_4 : decode cX6_printed 4 = .ok (.ldc 61, 2) := by decide +kernel
theorem dX6_printed_6 : decode cX6_printed 6 = .ok (.ireturn, 1) := by decide +kernel
theorem dX6_printed_7 : decode cX6_printed 7 = .ok (.iload_n 1, 1) := by decide +kernel
theorem dX6_printed_8 : decode cX6_printed 8 = .ok (.aload_n 0, 1) := by decide +kernel
theorem dX6_printed_9 : decode cX6_printed 9 = .ok (.getfield 33, 3) := by decide +kernel
theorem dX6_printed_12 : decode cX6_printed 12 = .ok (.getfield 227, 3) := by decide +kernel
theorem dX6_printed_15 : decode cX6_printed 15 = .ok (.if_icmp .lt 6, 3) := by decide +kernel
theorem dX6_printed_18 : decode cX6_printed 18 = .ok (.ldc 95, 2) := by decide +kernel
theorem dX6_printed_20 : decode cX6_printed 20 = .ok (.ireturn, 1) := by decide +kernel
theorem dX6_printed_21 : decode cX6_printed 21 = .ok (.aload_n 0, 1) := by decide +kernel
theorem dX6_printed_22 : decode cX6_printed 22 = .ok (.getfield 33, 3) := by decide +kernel
theorem dX6_printed_25 : decode cX6_printed 25 = .ok (.iload_n 1, 1) := by decide +kernel
theorem dX6_printed_26 : decode cX6_printed 26 = .ok (.invokevirtual 240, 3) := by decide +kernel
theorem dX6_printed_29 : decode cX6_printed 29 = .ok (.ireturn, 1) := by decide +kernel
theorem dX6_undo_0 : decode cX6_undo 0 = .ok (.aload_n 0, 1) := by decide +kernel
theorem dX6_undo_1 : decode cX6_undo 1 = .ok (.getfield 20, 3) := by decide +kernel
theorem dX6_undo_4 : decode cX6_undo 4 = .ok (.ifCond .gt 6, 3) := by decide +kernel
theorem dX6_undo_7 : decode cX6_undo 7 = .ok (.ldc 95, 2) := by decide +kernel
theorem dX6_undo_9 : decode cX6_undo 9 = .ok (.ireturn, 1) := by decide +kernel
theorem dX6_undo_10 : decode cX6_undo 10 = .ok (.aload_n 0, 1) := by decide +kernel
theorem dX6_undo_11 : decode cX6_undo 11 = .ok (.dup, 1) := by decide +kernel
theorem dX6_undo_12 : decode cX6_undo 12 = .ok (.getfield 20, 3) := by decide +kernel
theorem dX6_undo_15 : decode cX6_undo 15 = .ok (.iconst 1, 1) := by decide +kernel
theorem dX6_undo_16 : decode cX6_undo 16 = .ok (.isub, 1) := by decide +kernel
theorem dX6_undo_17 : decode cX6_undo 17 = .ok (.putfield 20, 3) := by decide +kernel
theorem dX6_undo_20 : decode cX6_undo 20 = .ok (.aload_n 0, 1) := by decide +kernel
theorem dX6_undo_21 : decode cX6_undo 21 = .ok (.getfield 12, 3) := by decide +kernel
theorem dX6_undo_24 : decode cX6_undo 24 = .ok (.aload_n 0, 1) := by decide +kernel
theorem dX6_undo_25 : decode cX6_undo 25 = .ok (.getfield 16, 3) := by decide +kernel
theorem dX6_undo_28 : decode cX6_undo 28 = .ok (.aload_n 0, 1) := by decide +kernel
theorem dX6_undo_29 : decode cX6_undo 29 = .ok (.getfield 20, 3) := by decide +kernel
theorem dX6_undo_32 : decode cX6_undo 32 = .ok (.aaload, 1) := by decide +kernel
theorem dX6_undo_33 : decode cX6_undo 33 = .ok (.invokevirtual 241, 3) := by decide +kernel
theorem dX6_undo_36 : decode cX6_undo 36 = .ok (.aload_n 0, 1) := by decide +kernel
theorem dX6_undo_37 : decode cX6_undo 37 = .ok (.getfield 20, 3) := by decide +kernel
theorem dX6_undo_40 : decode cX6_undo 40 = .ok (.ireturn, 1) := by decide +kernel
theorem dX6_remember_0 : decode cX6_remember 0 = .ok (.aload_n 0, 1) := by decide +kernel
theorem dX6_remember_1 : decode cX6_remember 1 = .ok (.getfield 20, 3) := by decide +kernel
theorem dX6_remember_4 : decode cX6_remember 4 = .ok (.iconst 4, 1) := by decide +kernel
theorem dX6_remember_5 : decode cX6_remember 5 = .ok (.if_icmp .lt 7, 3) := by decide +kernel
theorem dX6_remember_8 : decode cX6_remember 8 = .ok (.aload_n 0, 1) := by decide +kernel
theorem dX6_remember_9 : decode cX6_remember 9 = .ok (.invokevirtual 245, 3) := by decide +kernel
theorem dX6_remember_12 : decode cX6_remember 12 = .ok (.aload_n 0, 1) := by decide +kernel
theorem dX6_remember_13 : decode cX6_remember 13 = .ok (.getfield 16, 3) := by decide +kernel
theorem dX6_remember_16 : decode cX6_remember 16 = .ok (.aload_n 0, 1) := by decide +kernel
theorem dX6_remember_17 : decode cX6_remember 17 = .ok (.getfield 20, 3) := by decide +kernel
theorem dX6_remember_20 : decode cX6_remember 20 = .ok (.aaload, 1) := by decide +kernel
theorem dX6_remember_21 : decode cX6_remember 21 = .ok (.aload_n 0, 1) := by decide +kernel
theorem dX6_remember_22 : decode cX6_remember 22 = .ok (.getfield 12, 3) := by decide +kernel
theorem dX6_remember_25 : decode cX6_remember 25 = .ok (.invokevirtual 241, 3) := by decide +kernel
theorem dX6_remember_28 : decode cX6_remember 28 = .ok (.aload_n 0, 1) := by decide +kernel
theorem dX6_remember_29 : decode cX6_remember 29 = .ok (.dup, 1) := by decide +kernel
theorem dX6_remember_30 : decode cX6_remember 30 = .ok (.getfield 20, 3) := by decide +kernel
theorem dX6_remember_33 : decode cX6_remember 33 = .ok (.iconst 1, 1) := by decide +kernel
theorem dX6_remember_34 : decode cX6_remember 34 = .ok (.iadd, 1) := by decide +kernel
theorem dX6_remember_35 : decode cX6_remember 35 = .ok (.putfield 20, 3) := by decide +kernel
theorem dX6_remember_38 : decode cX6_remember 38 = .ok (.return_, 1) := by decide +kernel
theorem dX6_dropOldest_0 : decode cX6_dropOldest 0 = .ok (.aload_n 0, 1) := by decide +kernel
theorem dX6_dropOldest_1 : decode cX6_dropOldest 1 = .ok (.getfield 16, 3) := by decide +kernel
theorem dX6_dropOldest_4 : decode cX6_dropOldest 4 = .ok (.iconst 0, 1) := by decide +kernel
theorem dX6_dropOldest_5 : decode cX6_dropOldest 5 = .ok (.aaload, 1) := by decide +kernel
theorem dX6_dropOldest_6 : decode cX6_dropOldest 6 = .ok (.astore_n 1, 1) := by decide +kernel
theorem dX6_dropOldest_7 : decode cX6_dropOldest 7 = .ok (.iconst 1, 1) := by decide +kernel
theorem dX6_dropOldest_8 : decode cX6_dropOldest 8 = .ok (.istore_n 2, 1) := by decide +kernel
theorem dX6_dropOldest_9 : decode cX6_dropOldest 9 = .ok (.iload_n 2, 1) := by decide +kernel
theorem dX6_dropOldest_10 : decode cX6_dropOldest 10 = .ok (.iconst 4, 1) := by decide +kernel
theorem dX6_dropOldest_11 : decode cX6_dropOldest 11 = .ok (.if_icmp .ge 23, 3) := by decide +kernel
theorem dX6_dropOldest_14 : decode cX6_dropOldest 14 = .ok (.aload_n 0, 1) := by decide +kernel
theorem dX6_dropOldest_15 : decode cX6_dropOldest 15 = .ok (.getfield 16, 3) := by decide +kernel
theorem dX6_dropOldest_18 : decode cX6_dropOldest 18 = .ok (.iload_n 2, 1) := by decide +kernel
theorem dX6_dropOldest_19 : decode cX6_dropOldest 19 = .ok (.iconst 1, 1) := by decide +kernel
theorem dX6_dropOldest_20 : decode cX6_dropOldest 20 = .ok (.isub, 1) := by decide +kernel
theorem dX6_dropOldest_21 : decode cX6_dropOldest 21 = .ok (.aload_n 0, 1) := by decide +kernel
theorem dX6_dropOldest_22 : decode cX6_dropOldest 22 = .ok (.getfield 16, 3) := by decide +kernel
theorem dX6_dropOldest_25 : decode cX6_dropOldest 25 = .ok (.iload_n 2, 1) := by decide +kernel
theorem dX6_dropOldest_26 : decode cX6_dropOldest 26 = .ok (.aaload, 1) := by decide +kernel
theorem dX6_dropOldest_27 : decode cX6_dropOldest 27 = .ok (.aastore, 1) := by decide +kernel
theorem dX6_dropOldest_28 : decode cX6_dropOldest 28 = .ok (.iinc 2 1, 3) := by decide +kernel
theorem dX6_dropOldest_31 : decode cX6_dropOldest 31 = .ok (.goto (-22), 3) := by decide +kernel
theorem dX6_dropOldest_34 : decode cX6_dropOldest 34 = .ok (.aload_n 0, 1) := by decide +kernel
theorem dX6_dropOldest_35 : decode cX6_dropOldest 35 = .ok (.getfield 16, 3) := by decide +kernel
theorem dX6_dropOldest_38 : decode cX6_dropOldest 38 = .ok (.iconst 3, 1) := by decide +kernel
theorem dX6_dropOldest_39 : decode cX6_dropOldest 39 = .ok (.aload_n 1, 1) := by decide +kernel
theorem dX6_dropOldest_40 : decode cX6_dropOldest 40 = .ok (.aastore, 1) := by decide +kernel
theorem dX6_dropOldest_41 : decode cX6_dropOldest 41 = .ok (.aload_n 0, 1) := by decide +kernel
theorem dX6_dropOldest_42 : decode cX6_dropOldest 42 = .ok (.iconst 3, 1) := by decide +kernel
theorem dX6_dropOldest_43 : decode cX6_dropOldest 43 = .ok (.putfield 20, 3) := by decide +kernel
theorem dX6_dropOldest_46 : decode cX6_dropOldest 46 = .ok (.return_, 1) := by decide +kernel
theorem dX6_records_0 : decode cX6_records 0 = .ok (.aload_n 0, 1) := by decide +kernel
theorem dX6_records_1 : decode cX6_records 1 = .ok (.getfield 12, 3) := by decide +kernel
theorem dX6_records_4 : decode cX6_records 4 = .ok (.getfield 67, 3) := by decide +kernel
theorem dX6_records_7 : decode cX6_records 7 = .ok (.ireturn, 1) := by decide +kernel
theorem dX6_recordAt_0 : decode cX6_recordAt 0 = .ok (.iload_n 1, 1) := by decide +kernel
theorem dX6_recordAt_1 : decode cX6_recordAt 1 = .ok (.ifCond .ge 6, 3) := by decide +kernel
theorem dX6_recordAt_4 : decode cX6_recordAt 4 = .ok (.ldc 61, 2) := by decide +kernel
theorem dX6_recordAt_6 : decode cX6_recordAt 6 = .ok (.ireturn, 1) := by decide +kernel
theorem dX6_recordAt_7 : decode cX6_recordAt 7 = .ok (.iload_n 1, 1) := by decide +kernel
theorem dX6_recordAt_8 : decode cX6_recordAt 8 = .ok (.aload_n 0, 1) := by decide +kernel
theorem dX6_recordAt_9 : decode cX6_recordAt 9 = .ok (.getfield 12, 3) := by decide +kernel
theorem dX6_recordAt_12 : decode cX6_recordAt 12 = .ok (.getfield 67, 3) := by decide +kernel
theorem dX6_recordAt_15 : decode cX6_recordAt 15 = .ok (.if_icmp .lt 6, 3) := by decide +kernel
theorem dX6_recordAt_18 : decode cX6_recordAt 18 = .ok (.ldc 95, 2) := by decide +kernel
theorem dX6_recordAt_20 : decode cX6_recordAt 20 = .ok (.ireturn, 1) := by decide +kernel
theorem dX6_recordAt_21 : decode cX6_recordAt 21 = .ok (.aload_n 0, 1) := by decide +kernel
theorem dX6_recordAt_22 : decode cX6_recordAt 22 = .ok (.getfield 12, 3) := by decide +kernel
theorem dX6_recordAt_25 : decode cX6_recordAt 25 = .ok (.getfield 189, 3) := by decide +kernel
theorem dX6_recordAt_28 : decode cX6_recordAt 28 = .ok (.iload_n 1, 1) := by decide +kernel
theorem dX6_recordAt_29 : decode cX6_recordAt 29 = .ok (.aaload, 1) := by decide +kernel
theorem dX6_recordAt_30 : decode cX6_recordAt 30 = .ok (.getfield 201, 3) := by decide +kernel
theorem dX6_recordAt_33 : decode cX6_recordAt 33 = .ok (.ireturn, 1) := by decide +kernel
theorem dX6_locker_0 : decode cX6_locker 0 = .ok (.aload_n 0, 1) := by decide +kernel
theorem dX6_locker_1 : decode cX6_locker 1 = .ok (.getfield 12, 3) := by decide +kernel
theorem dX6_locker_4 : decode cX6_locker 4 = .ok (.iload_n 1, 1) := by decide +kernel
theorem dX6_locker_5 : decode cX6_locker 5 = .ok (.invokevirtual 62, 3) := by decide +kernel
theorem dX6_locker_8 : decode cX6_locker 8 = .ok (.astore_n 2, 1) := by decide +kernel
theorem dX6_locker_9 : decode cX6_locker 9 = .ok (.aload_n 2, 1) := by decide +kernel
theorem dX6_locker_10 : decode cX6_locker 10 = .ok (.ifnonnull 6, 3) := by decide +kernel
theorem dX6_locker_13 : decode cX6_locker 13 = .ok (.ldc 77, 2) := by decide +kernel
theorem dX6_locker_15 : decode cX6_locker 15 = .ok (.ireturn, 1) := by decide +kernel
theorem dX6_locker_16 : decode cX6_locker 16 = .ok (.aload_n 2, 1) := by decide +kernel
theorem dX6_locker_17 : decode cX6_locker 17 = .ok (.getfield 88, 3) := by decide +kernel
theorem dX6_locker_20 : decode cX6_locker 20 = .ok (.ireturn, 1) := by decide +kernel
theorem dX6_values_0 : decode cX6_values 0 = .ok (.aload_n 0, 1) := by decide +kernel
theorem dX6_values_1 : decode cX6_values 1 = .ok (.getfield 12, 3) := by decide +kernel
theorem dX6_values_4 : decode cX6_values 4 = .ok (.iload_n 1, 1) := by decide +kernel
theorem dX6_values_5 : decode cX6_values 5 = .ok (.invokevirtual 62, 3) := by decide +kernel
theorem dX6_values_8 : decode cX6_values 8 = .ok (.astore_n 3, 1) := by decide +kernel
theorem dX6_values_9 : decode cX6_values 9 = .ok (.aload_n 3, 1) := by decide +kernel
theorem dX6_values_10 : decode cX6_values 10 = .ok (.ifnull 11, 3) := by decide +kernel
theorem dX6_values_13 : decode cX6_values 13 = .ok (.iload_n 2, 1) := by decide +kernel
theorem dX6_values_14 : decode cX6_values 14 = .ok (.iconst 4, 1) := by decide +kernel
theorem dX6_values_15 : decode cX6_values 15 = .ok (.invokestatic 57, 3) := by decide +kernel
theorem dX6_values_18 : decode cX6_values 18 = .ok (.ifCond .ne 6, 3) := by decide +kernel
theorem dX6_values_21 : decode cX6_values 21 = .ok (.ldc 77, 2) := by decide +kernel
theorem dX6_values_23 : decode cX6_values 23 = .ok (.ireturn, 1) := by decide +kernel
theorem dX6_values_24 : decode cX6_values 24 = .ok (.aload_n 3, 1) := by decide +kernel
theorem dX6_values_25 : decode cX6_values 25 = .ok (.iload_n 2, 1) := by decide +kernel
theorem dX6_values_26 : decode cX6_values 26 = .ok (.invokevirtual 111, 3) := by decide +kernel
theorem dX6_values_29 : decode cX6_values 29 = .ok (.ireturn, 1) := by decide +kernel
theorem dX6_subvalues_0 : decode cX6_subvalues 0 = .ok (.aload_n 0, 1) := by decide +kernel
theorem dX6_subvalues_1 : decode cX6_subvalues 1 = .ok (.getfield 12, 3) := by decide +kernel
theorem dX6_subvalues_4 : decode cX6_subvalues 4 = .ok (.iload_n 1, 1) := by decide +kernel
theorem dX6_subvalues_5 : decode cX6_subvalues 5 = .ok (.invokevirtual 62, 3) := by decide +kernel
theorem dX6_subvalues_8 : decode cX6_subvalues 8 = .ok (.astore 4, 2) := by decide +kernel
theorem dX6_subvalues_10 : decode cX6_subvalues 10 = .ok (.aload 4, 2) := by decide +kernel
theorem dX6_subvalues_12 : decode cX6_subvalues 12 = .ok (.ifnull 13, 3) := by decide +kernel
theorem dX6_subvalues_15 : decode cX6_subvalues 15 = .ok (.aload 4, 2) := by decide +kernel
theorem dX6_subvalues_17 : decode cX6_subvalues 17 = .ok (.iload_n 2, 1) := by decide +kernel
theorem dX6_subvalues_18 : decode cX6_subvalues 18 = .ok (.iload_n 3, 1) := by decide +kernel
theorem dX6_subvalues_19 : decode cX6_subvalues 19 = .ok (.invokevirtual 154, 3) := by decide +kernel
theorem dX6_subvalues_22 : decode cX6_subvalues 22 = .ok (.ifCond .ne 6, 3) := by decide +kernel
theorem dX6_subvalues_25 : decode cX6_subvalues 25 = .ok (.ldc 77, 2) := by decide +kernel
theorem dX6_subvalues_27 : decode cX6_subvalues 27 = .ok (.ireturn, 1) := by decide +kernel
theorem dX6_subvalues_28 : decode cX6_subvalues 28 = .ok (.aload 4, 2) := by decide +kernel
theorem dX6_subvalues_30 : decode cX6_subvalues 30 = .ok (.iload_n 2, 1) := by decide +kernel
theorem dX6_subvalues_31 : decode cX6_subvalues 31 = .ok (.iload_n 3, 1) := by decide +kernel
theorem dX6_subvalues_32 : decode cX6_subvalues 32 = .ok (.invokevirtual 118, 3) := by decide +kernel
theorem dX6_subvalues_35 : decode cX6_subvalues 35 = .ok (.ireturn, 1) := by decide +kernel
theorem dX6_get_0 : decode cX6_get 0 = .ok (.aload_n 0, 1) := by decide +kernel
theorem dX6_get_1 : decode cX6_get 1 = .ok (.getfield 12, 3) := by decide +kernel
theorem dX6_get_4 : decode cX6_get 4 = .ok (.iload_n 1, 1) := by decide +kernel
theorem dX6_get_5 : decode cX6_get 5 = .ok (.invokevirtual 62, 3) := by decide +kernel
theorem dX6_get_8 : decode cX6_get 8 = .ok (.astore 5, 2) := by decide +kernel
theorem dX6_get_10 : decode cX6_get 10 = .ok (.aload 5, 2) := by decide +kernel
theorem dX6_get_12 : decode cX6_get 12 = .ok (.ifnull 15, 3) := by decide +kernel
theorem dX6_get_15 : decode cX6_get 15 = .ok (.aload 5, 2) := by decide +kernel
theorem dX6_get_17 : decode cX6_get 17 = .ok (.iload_n 2, 1) := by decide +kernel
theorem dX6_get_18 : decode cX6_get 18 = .ok (.iload_n 3, 1) := by decide +kernel
theorem dX6_get_19 : decode cX6_get 19 = .ok (.iload 4, 2) := by decide +kernel
theorem dX6_get_21 : decode cX6_get 21 = .ok (.invokevirtual 126, 3) := by decide +kernel
theorem dX6_get_24 : decode cX6_get 24 = .ok (.ifCond .ne 6, 3) := by decide +kernel
theorem dX6_get_27 : decode cX6_get 27 = .ok (.ldc 77, 2) := by decide +kernel
theorem dX6_get_29 : decode cX6_get 29 = .ok (.ireturn, 1) := by decide +kernel
theorem dX6_get_30 : decode cX6_get 30 = .ok (.aload 5, 2) := by decide +kernel
theorem dX6_get_32 : decode cX6_get 32 = .ok (.iload_n 2, 1) := by decide +kernel
theorem dX6_get_33 : decode cX6_get 33 = .ok (.iload_n 3, 1) := by decide +kernel
theorem dX6_get_34 : decode cX6_get 34 = .ok (.iload 4, 2) := by decide +kernel
theorem dX6_get_36 : decode cX6_get 36 = .ok (.invokevirtual 129, 3) := by decide +kernel
theorem dX6_get_39 : decode cX6_get 39 = .ok (.ireturn, 1) := by decide +kernel
theorem dX6_lines_0 : decode cX6_lines 0 = .ok (.aload_n 0, 1) := by decide +kernel
theorem dX6_lines_1 : decode cX6_lines 1 = .ok (.getfield 12, 3) := by decide +kernel
theorem dX6_lines_4 : decode cX6_lines 4 = .ok (.iload_n 1, 1) := by decide +kernel
theorem dX6_lines_5 : decode cX6_lines 5 = .ok (.invokevirtual 62, 3) := by decide +kernel
theorem dX6_lines_8 : decode cX6_lines 8 = .ok (.astore_n 2, 1) := by decide +kernel
theorem dX6_lines_9 : decode cX6_lines 9 = .ok (.aload_n 2, 1) := by decide +kernel
theorem dX6_lines_10 : decode cX6_lines 10 = .ok (.ifnonnull 6, 3) := by decide +kernel
theorem dX6_lines_13 : decode cX6_lines 13 = .ok (.ldc 77, 2) := by decide +kernel
theorem dX6_lines_15 : decode cX6_lines 15 = .ok (.ireturn, 1) := by decide +kernel
theorem dX6_lines_16 : decode cX6_lines 16 = .ok (.aload_n 0, 1) := by decide +kernel
theorem dX6_lines_17 : decode cX6_lines 17 = .ok (.getfield 12, 3) := by decide +kernel
theorem dX6_lines_20 : decode cX6_lines 20 = .ok (.aload_n 2, 1) := by decide +kernel
theorem dX6_lines_21 : decode cX6_lines 21 = .ok (.invokevirtual 146, 3) := by decide +kernel
theorem dX6_lines_24 : decode cX6_lines 24 = .ok (.ireturn, 1) := by decide +kernel
theorem dX6_locate_0 : decode cX6_locate 0 = .ok (.aload_n 0, 1) := by decide +kernel
theorem dX6_locate_1 : decode cX6_locate 1 = .ok (.getfield 12, 3) := by decide +kernel
theorem dX6_locate_4 : decode cX6_locate 4 = .ok (.iload_n 1, 1) := by decide +kernel
theorem dX6_locate_5 : decode cX6_locate 5 = .ok (.invokevirtual 62, 3) := by decide +kernel
theorem dX6_locate_8 : decode cX6_locate 8 = .ok (.astore 4, 2) := by decide +kernel
theorem dX6_locate_10 : decode cX6_locate 10 = .ok (.aload 4, 2) := by decide +kernel
theorem dX6_locate_12 : decode cX6_locate 12 = .ok (.ifnull 11, 3) := by decide +kernel
theorem dX6_locate_15 : decode cX6_locate 15 = .ok (.iload_n 2, 1) := by decide +kernel
theorem dX6_locate_16 : decode cX6_locate 16 = .ok (.iconst 4, 1) := by decide +kernel
theorem dX6_locate_17 : decode cX6_locate 17 = .ok (.invokestatic 57, 3) := by decide +kernel
theorem dX6_locate_20 : decode cX6_locate 20 = .ok (.ifCond .ne 6, 3) := by decide +kernel
theorem dX6_locate_23 : decode cX6_locate 23 = .ok (.ldc 77, 2) := by decide +kernel
theorem dX6_locate_25 : decode cX6_locate 25 = .ok (.ireturn, 1) := by decide +kernel
theorem dX6_locate_26 : decode cX6_locate 26 = .ok (.iload_n 3, 1) := by decide +kernel
theorem dX6_locate_27 : decode cX6_locate 27 = .ok (.invokestatic 100, 3) := by decide +kernel
theorem dX6_locate_30 : decode cX6_locate 30 = .ok (.ifCond .ne 6, 3) := by decide +kernel
theorem dX6_locate_33 : decode cX6_locate 33 = .ok (.ldc 61, 2) := by decide +kernel
theorem dX6_locate_35 : decode cX6_locate 35 = .ok (.ireturn, 1) := by decide +kernel
theorem dX6_locate_36 : decode cX6_locate 36 = .ok (.iconst 0, 1) := by decide +kernel
theorem dX6_locate_37 : decode cX6_locate 37 = .ok (.istore 5, 2) := by decide +kernel
theorem dX6_locate_39 : decode cX6_locate 39 = .ok (.iload 5, 2) := by decide +kernel
theorem dX6_locate_41 : decode cX6_locate 41 = .ok (.aload 4, 2) := by decide +kernel
theorem dX6_locate_43 : decode cX6_locate 43 = .ok (.iload_n 2, 1) := by decide +kernel
theorem dX6_locate_44 : decode cX6_locate 44 = .ok (.invokevirtual 111, 3) := by decide +kernel
theorem dX6_locate_47 : decode cX6_locate 47 = .ok (.if_icmp .ge 54, 3) := by decide +kernel
theorem dX6_locate_50 : decode cX6_locate 50 = .ok (.iconst 0, 1) := by decide +kernel
theorem dX6_locate_51 : decode cX6_locate 51 = .ok (.istore 6, 2) := by decide +kernel
theorem dX6_locate_53 : decode cX6_locate 53 = .ok (.iload 6, 2) := by decide +kernel
theorem dX6_locate_55 : decode cX6_locate 55 = .ok (.aload 4, 2) := by decide +kernel
theorem dX6_locate_57 : decode cX6_locate 57 = .ok (.iload_n 2, 1) := by decide +kernel
theorem dX6_locate_58 : decode cX6_locate 58 = .ok (.iload 5, 2) := by decide +kernel
theorem dX6_locate_60 : decode cX6_locate 60 = .ok (.invokevirtual 118, 3) := by decide +kernel
theorem dX6_locate_63 : decode cX6_locate 63 = .ok (.if_icmp .ge 32, 3) := by decide +kernel
theorem dX6_locate_66 : decode cX6_locate 66 = .ok (.aload 4, 2) := by decide +kernel
theorem dX6_locate_68 : decode cX6_locate 68 = .ok (.iload_n 2, 1) := by decide +kernel
theorem dX6_locate_69 : decode cX6_locate 69 = .ok (.iload 5, 2) := by decide +kernel
theorem dX6_locate_71 : decode cX6_locate 71 = .ok (.iload 6, 2) := by decide +kernel
theorem dX6_locate_73 : decode cX6_locate 73 = .ok (.invokevirtual 129, 3) := by decide +kernel
theorem dX6_locate_76 : decode cX6_locate 76 = .ok (.iload_n 3, 1) := by decide +kernel
theorem dX6_locate_77 : decode cX6_locate 77 = .ok (.if_icmp .ne 12, 3) := by decide +kernel
theorem dX6_locate_80 : decode cX6_locate 80 = .ok (.bipush 10, 2) := by decide +kernel
theorem dX6_locate_82 : decode cX6_locate 82 = .ok (.iload 5, 2) := by decide +kernel
theorem dX6_locate_84 : decode cX6_locate 84 = .ok (.imul, 1) := by decide +kernel
theorem dX6_locate_85 : decode cX6_locate 85 = .ok (.iload 6, 2) := by decide +kernel
theorem dX6_locate_87 : decode cX6_locate 87 = .ok (.iadd, 1) := by decide +kernel
theorem dX6_locate_88 : decode cX6_locate 88 = .ok (.ireturn, 1) := by decide +kernel
theorem dX6_locate_89 : decode cX6_locate 89 = .ok (.iinc 6 1, 3) := by decide +kernel
theorem dX6_locate_92 : decode cX6_locate 92 = .ok (.goto (-39), 3) := by decide +kernel
theorem dX6_locate_95 : decode cX6_locate 95 = .ok (.iinc 5 1, 3) := by decide +kernel
theorem dX6_locate_98 : decode cX6_locate 98 = .ok (.goto (-59), 3) := by decide +kernel
theorem dX6_locate_101 : decode cX6_locate 101 = .ok (.ldc 95, 2) := by decide +kernel
theorem dX6_locate_103 : decode cX6_locate 103 = .ok (.ireturn, 1) := by decide +kernel
theorem dX6_column_0 : decode cX6_column 0 = .ok (.iload_n 1, 1) := by decide +kernel
theorem dX6_column_1 : decode cX6_column 1 = .ok (.bipush 6, 2) := by decide +kernel
theorem dX6_column_3 : decode cX6_column 3 = .ok (.invokestatic 57, 3) := by decide +kernel
theorem dX6_column_6 : decode cX6_column 6 = .ok (.ifCond .ne 6, 3) := by decide +kernel
theorem dX6_column_9 : decode cX6_column 9 = .ok (.ldc 77, 2) := by decide +kernel
theorem dX6_column_11 : decode cX6_column 11 = .ok (.ireturn, 1) := by decide +kernel
theorem dX6_column_12 : decode cX6_column 12 = .ok (.iload_n 2, 1) := by decide +kernel
theorem dX6_column_13 : decode cX6_column 13 = .ok (.tableswitch 57 0 2 #[27, 37, 47], 27) := by decide +kernel
theorem dX6_column_40 : decode cX6_column 40 = .ok (.aload_n 0, 1) := by decide +kernel
theorem dX6_column_41 : decode cX6_column 41 = .ok (.getfield 12, 3) := by decide +kernel
theorem dX6_column_44 : decode cX6_column 44 = .ok (.getfield 177, 3) := by decide +kernel
theorem dX6_column_47 : decode cX6_column 47 = .ok (.iload_n 1, 1) := by decide +kernel
theorem dX6_column_48 : decode cX6_column 48 = .ok (.iaload, 1) := by decide +kernel
theorem dX6_column_49 : decode cX6_column 49 = .ok (.ireturn, 1) := by decide +kernel
theorem dX6_column_50 : decode cX6_column 50 = .ok (.aload_n 0, 1) := by decide +kernel
theorem dX6_column_51 : decode cX6_column 51 = .ok (.getfield 12, 3) := by decide +kernel
theorem dX6_column_54 : decode cX6_column 54 = .ok (.getfield 248, 3) := by decide +kernel
theorem dX6_column_57 : decode cX6_column 57 = .ok (.iload_n 1, 1) := by decide +kernel
theorem dX6_column_58 : decode cX6_column 58 = .ok (.iaload, 1) := by decide +kernel
theorem dX6_column_59 : decode cX6_column 59 = .ok (.ireturn, 1) := by decide +kernel
theorem dX6_column_60 : decode cX6_column 60 = .ok (.aload_n 0, 1) := by decide +kernel
theorem dX6_column_61 : decode cX6_column 61 = .ok (.getfield 12, 3) := by decide +kernel
theorem dX6_column_64 : decode cX6_column 64 = .ok (.getfield 251, 3) := by decide +kernel
theorem dX6_column_67 : decode cX6_column 67 = .ok (.iload_n 1, 1) := by decide +kernel
theorem dX6_column_68 : decode cX6_column 68 = .ok (.iaload, 1) := by decide +kernel
theorem dX6_column_69 : decode cX6_column 69 = .ok (.ireturn, 1) := by decide +kernel
theorem dX6_column_70 : decode cX6_column 70 = .ok (.ldc 61, 2) := by decide +kernel
theorem dX6_column_72 : decode cX6_column 72 = .ok (.ireturn, 1) := by decide +kernel
theorem dX6_associated_0 : decode cX6_associated 0 = .ok (.iload_n 1, 1) := by decide +kernel
theorem dX6_associated_1 : decode cX6_associated 1 = .ok (.iconst 4, 1) := by decide +kernel
theorem dX6_associated_2 : decode cX6_associated 2 = .ok (.invokestatic 57, 3) := by decide +kernel
theorem dX6_associated_5 : decode cX6_associated 5 = .ok (.ifCond .ne 6, 3) := by decide +kernel
theorem dX6_associated_8 : decode cX6_associated 8 = .ok (.ldc 77, 2) := by decide +kernel
theorem dX6_associated_10 : decode cX6_associated 10 = .ok (.ireturn, 1) := by decide +kernel
theorem dX6_associated_11 : decode cX6_associated 11 = .ok (.aload_n 0, 1) := by decide +kernel
theorem dX6_associated_12 : decode cX6_associated 12 = .ok (.getfield 12, 3) := by decide +kernel
theorem dX6_associated_15 : decode cX6_associated 15 = .ok (.getfield 150, 3) := by decide +kernel
theorem dX6_associated_18 : decode cX6_associated 18 = .ok (.iload_n 1, 1) := by decide +kernel
theorem dX6_associated_19 : decode cX6_associated 19 = .ok (.baload, 1) := by decide +kernel
theorem dX6_associated_20 : decode cX6_associated 20 = .ok (.ifCond .eq 7, 3) := by decide +kernel
theorem dX6_associated_23 : decode cX6_associated 23 = .ok (.iconst 1, 1) := by decide +kernel
theorem dX6_associated_24 : decode cX6_associated 24 = .ok (.goto 4, 3) := by decide +kernel
theorem dX6_associated_27 : decode cX6_associated 27 = .ok (.iconst 0, 1) := by decide +kernel
theorem dX6_associated_28 : decode cX6_associated 28 = .ok (.ireturn, 1) := by decide +kernel
theorem dX6_listSize_0 : decode cX6_listSize 0 = .ok (.iload_n 1, 1) := by decide +kernel
theorem dX6_listSize_1 : decode cX6_listSize 1 = .ok (.bipush 8, 2) := by decide +kernel
theorem dX6_listSize_3 : decode cX6_listSize 3 = .ok (.invokestatic 57, 3) := by decide +kernel
theorem dX6_listSize_6 : decode cX6_listSize 6 = .ok (.ifCond .ne 6, 3) := by decide +kernel
theorem dX6_listSize_9 : decode cX6_listSize 9 = .ok (.ldc 77, 2) := by decide +kernel
theorem dX6_listSize_11 : decode cX6_listSize 11 = .ok (.ireturn, 1) := by decide +kernel
theorem dX6_listSize_12 : decode cX6_listSize 12 = .ok (.aload_n 0, 1) := by decide +kernel
theorem dX6_listSize_13 : decode cX6_listSize 13 = .ok (.getfield 12, 3) := by decide +kernel
theorem dX6_listSize_16 : decode cX6_listSize 16 = .ok (.iload_n 1, 1) := by decide +kernel
theorem dX6_listSize_17 : decode cX6_listSize 17 = .ok (.invokevirtual 208, 3) := by decide +kernel
theorem dX6_listSize_20 : decode cX6_listSize 20 = .ok (.ireturn, 1) := by decide +kernel
theorem dX6_listAt_0 : decode cX6_listAt 0 = .ok (.iload_n 1, 1) := by decide +kernel
theorem dX6_listAt_1 : decode cX6_listAt 1 = .ok (.bipush 8, 2) := by decide +kernel
theorem dX6_listAt_3 : decode cX6_listAt 3 = .ok (.invokestatic 57, 3) := by decide +kernel
theorem dX6_listAt_6 : decode cX6_listAt 6 = .ok (.ifCond .ne 6, 3) := by decide +kernel
theorem dX6_listAt_9 : decode cX6_listAt 9 = .ok (.ldc 77, 2) := by decide +kernel
theorem dX6_listAt_11 : decode cX6_listAt 11 = .ok (.ireturn, 1) := by decide +kernel
theorem dX6_listAt_12 : decode cX6_listAt 12 = .ok (.iload_n 2, 1) := by decide +kernel
theorem dX6_listAt_13 : decode cX6_listAt 13 = .ok (.ifCond .ge 6, 3) := by decide +kernel
theorem dX6_listAt_16 : decode cX6_listAt 16 = .ok (.ldc 61, 2) := by decide +kernel
theorem dX6_listAt_18 : decode cX6_listAt 18 = .ok (.ireturn, 1) := by decide +kernel
theorem dX6_listAt_19 : decode cX6_listAt 19 = .ok (.iconst 0, 1) := by decide +kernel
theorem dX6_listAt_20 : decode cX6_listAt 20 = .ok (.istore_n 3, 1) := by decide +kernel
theorem dX6_listAt_21 : decode cX6_listAt 21 = .ok (.iconst 0, 1) := by decide +kernel
theorem dX6_listAt_22 : decode cX6_listAt 22 = .ok (.istore 4, 2) := by decide +kernel
theorem dX6_listAt_24 : decode cX6_listAt 24 = .ok (.iload 4, 2) := by decide +kernel
theorem dX6_listAt_26 : decode cX6_listAt 26 = .ok (.bipush 100, 2) := by decide +kernel
theorem dX6_listAt_28 : decode cX6_listAt 28 = .ok (.if_icmp .ge 33, 3) := by decide +kernel
theorem dX6_listAt_31 : decode cX6_listAt 31 = .ok (.aload_n 0, 1) := by decide +kernel
theorem dX6_listAt_32 : decode cX6_listAt 32 = .ok (.getfield 12, 3) := by decide +kernel
theorem dX6_listAt_35 : decode cX6_listAt 35 = .ok (.iload_n 1, 1) := by decide +kernel
theorem dX6_listAt_36 : decode cX6_listAt 36 = .ok (.iload 4, 2) := by decide +kernel
theorem dX6_listAt_38 : decode cX6_listAt 38 = .ok (.invokevirtual 220, 3) := by decide +kernel
theorem dX6_listAt_41 : decode cX6_listAt 41 = .ok (.ifCond .eq 14, 3) := by decide +kernel
theorem dX6_listAt_44 : decode cX6_listAt 44 = .ok (.iload_n 3, 1) := by decide +kernel
theorem dX6_listAt_45 : decode cX6_listAt 45 = .ok (.iload_n 2, 1) := by decide +kernel
theorem dX6_listAt_46 : decode cX6_listAt 46 = .ok (.if_icmp .ne 6, 3) := by decide +kernel
theorem dX6_listAt_49 : decode cX6_listAt 49 = .ok (.iload 4, 2) := by decide +kernel
theorem dX6_listAt_51 : decode cX6_listAt 51 = .ok (.ireturn, 1) := by decide +kernel
theorem dX6_listAt_52 : decode cX6_listAt 52 = .ok (.iinc 3 1, 3) := by decide +kernel
theorem dX6_listAt_55 : decode cX6_listAt 55 = .ok (.iinc 4 1, 3) := by decide +kernel
theorem dX6_listAt_58 : decode cX6_listAt 58 = .ok (.goto (-34), 3) := by decide +kernel
theorem dX6_listAt_61 : decode cX6_listAt 61 = .ok (.ldc 95, 2) := by decide +kernel
theorem dX6_listAt_63 : decode cX6_listAt 63 = .ok (.ireturn, 1) := by decide +kernel
theorem dX6_numbers_0 : decode cX6_numbers 0 = .ok (.aload_n 0, 1) := by decide +kernel
theorem dX6_numbers_1 : decode cX6_numbers 1 = .ok (.getfield 12, 3) := by decide +kernel
theorem dX6_numbers_4 : decode cX6_numbers 4 = .ok (.iload_n 1, 1) := by decide +kernel
theorem dX6_numbers_5 : decode cX6_numbers 5 = .ok (.invokevirtual 62, 3) := by decide +kernel
theorem dX6_numbers_8 : decode cX6_numbers 8 = .ok (.astore_n 3, 1) := by decide +kernel
theorem dX6_numbers_9 : decode cX6_numbers 9 = .ok (.aload_n 3, 1) := by decide +kernel
theorem dX6_numbers_10 : decode cX6_numbers 10 = .ok (.ifnull 12, 3) := by decide +kernel
theorem dX6_numbers_13 : decode cX6_numbers 13 = .ok (.iload_n 2, 1) := by decide +kernel
theorem dX6_numbers_14 : decode cX6_numbers 14 = .ok (.bipush 6, 2) := by decide +kernel
theorem dX6_numbers_16 : decode cX6_numbers 16 = .ok (.invokestatic 57, 3) := by decide +kernel
theorem dX6_numbers_19 : decode cX6_numbers 19 = .ok (.ifCond .ne 6, 3) := by decide +kernel
theorem dX6_numbers_22 : decode cX6_numbers 22 = .ok (.ldc 77, 2) := by decide +kernel
theorem dX6_numbers_24 : decode cX6_numbers 24 = .ok (.ireturn, 1) := by decide +kernel
theorem dX6_numbers_25 : decode cX6_numbers 25 = .ok (.aload_n 0, 1) := by decide +kernel
theorem dX6_numbers_26 : decode cX6_numbers 26 = .ok (.getfield 12, 3) := by decide +kernel
theorem dX6_numbers_29 : decode cX6_numbers 29 = .ok (.aload_n 3, 1) := by decide +kernel
theorem dX6_numbers_30 : decode cX6_numbers 30 = .ok (.iload_n 2, 1) := by decide +kernel
theorem dX6_numbers_31 : decode cX6_numbers 31 = .ok (.aload_n 0, 1) := by decide +kernel
theorem dX6_numbers_32 : decode cX6_numbers 32 = .ok (.getfield 46, 3) := by decide +kernel
theorem dX6_numbers_35 : decode cX6_numbers 35 = .ok (.invokevirtual 193, 3) := by decide +kernel
theorem dX6_numbers_38 : decode cX6_numbers 38 = .ok (.aload_n 0, 1) := by decide +kernel
theorem dX6_numbers_39 : decode cX6_numbers 39 = .ok (.getfield 46, 3) := by decide +kernel
theorem dX6_numbers_42 : decode cX6_numbers 42 = .ok (.getfield 211, 3) := by decide +kernel
theorem dX6_numbers_45 : decode cX6_numbers 45 = .ok (.ireturn, 1) := by decide +kernel
theorem dX6_numberAt_0 : decode cX6_numberAt 0 = .ok (.aload_n 0, 1) := by decide +kernel
theorem dX6_numberAt_1 : decode cX6_numberAt 1 = .ok (.getfield 12, 3) := by decide +kernel
theorem dX6_numberAt_4 : decode cX6_numberAt 4 = .ok (.iload_n 1, 1) := by decide +kernel
theorem dX6_numberAt_5 : decode cX6_numberAt 5 = .ok (.invokevirtual 62, 3) := by decide +kernel
theorem dX6_numberAt_8 : decode cX6_numberAt 8 = .ok (.astore 4, 2) := by decide +kernel
theorem dX6_numberAt_10 : decode cX6_numberAt 10 = .ok (.aload 4, 2) := by decide +kernel
theorem dX6_numberAt_12 : decode cX6_numberAt 12 = .ok (.ifnull 12, 3) := by decide +kernel
theorem dX6_numberAt_15 : decode cX6_numberAt 15 = .ok (.iload_n 2, 1) := by decide +kernel
theorem dX6_numberAt_16 : decode cX6_numberAt 16 = .ok (.bipush 6, 2) := by decide +kernel
theorem dX6_numberAt_18 : decode cX6_numberAt 18 = .ok (.invokestatic 57, 3) := by decide +kernel
theorem dX6_numberAt_21 : decode cX6_numberAt 21 = .ok (.ifCond .ne 6, 3) := by decide +kernel
theorem dX6_numberAt_24 : decode cX6_numberAt 24 = .ok (.ldc 77, 2) := by decide +kernel
theorem dX6_numberAt_26 : decode cX6_numberAt 26 = .ok (.ireturn, 1) := by decide +kernel
theorem dX6_numberAt_27 : decode cX6_numberAt 27 = .ok (.iload_n 3, 1) := by decide +kernel
theorem dX6_numberAt_28 : decode cX6_numberAt 28 = .ok (.ifCond .ge 6, 3) := by decide +kernel
theorem dX6_numberAt_31 : decode cX6_numberAt 31 = .ok (.ldc 61, 2) := by decide +kernel
theorem dX6_numberAt_33 : decode cX6_numberAt 33 = .ok (.ireturn, 1) := by decide +kernel
theorem dX6_numberAt_34 : decode cX6_numberAt 34 = .ok (.aload_n 0, 1) := by decide +kernel
theorem dX6_numberAt_35 : decode cX6_numberAt 35 = .ok (.getfield 12, 3) := by decide +kernel
theorem dX6_numberAt_38 : decode cX6_numberAt 38 = .ok (.aload 4, 2) := by decide +kernel
theorem dX6_numberAt_40 : decode cX6_numberAt 40 = .ok (.iload_n 2, 1) := by decide +kernel
theorem dX6_numberAt_41 : decode cX6_numberAt 41 = .ok (.aload_n 0, 1) := by decide +kernel
theorem dX6_numberAt_42 : decode cX6_numberAt 42 = .ok (.getfield 46, 3) := by decide +kernel
theorem dX6_numberAt_45 : decode cX6_numberAt 45 = .ok (.invokevirtual 193, 3) := by decide +kernel
theorem dX6_numberAt_48 : decode cX6_numberAt 48 = .ok (.iload_n 3, 1) := by decide +kernel
theorem dX6_numberAt_49 : decode cX6_numberAt 49 = .ok (.aload_n 0, 1) := by decide +kernel
theorem dX6_numberAt_50 : decode cX6_numberAt 50 = .ok (.getfield 46, 3) := by decide +kernel
theorem dX6_numberAt_53 : decode cX6_numberAt 53 = .ok (.getfield 211, 3) := by decide +kernel
theorem dX6_numberAt_56 : decode cX6_numberAt 56 = .ok (.if_icmp .lt 6, 3) := by decide +kernel
theorem dX6_numberAt_59 : decode cX6_numberAt 59 = .ok (.ldc 95, 2) := by decide +kernel
theorem dX6_numberAt_61 : decode cX6_numberAt 61 = .ok (.ireturn, 1) := by decide +kernel
theorem dX6_numberAt_62 : decode cX6_numberAt 62 = .ok (.aload_n 0, 1) := by decide +kernel
theorem dX6_numberAt_63 : decode cX6_numberAt 63 = .ok (.getfield 46, 3) := by decide +kernel
theorem dX6_numberAt_66 : decode cX6_numberAt 66 = .ok (.iload_n 3, 1) := by decide +kernel
theorem dX6_numberAt_67 : decode cX6_numberAt 67 = .ok (.invokevirtual 214, 3) := by decide +kernel
theorem dX6_numberAt_70 : decode cX6_numberAt 70 = .ok (.ireturn, 1) := by decide +kernel
theorem dX6_exploded_0 : decode cX6_exploded 0 = .ok (.iload_n 1, 1) := by decide +kernel
theorem dX6_exploded_1 : decode cX6_exploded 1 = .ok (.bipush 6, 2) := by decide +kernel
theorem dX6_exploded_3 : decode cX6_exploded 3 = .ok (.invokestatic 57, 3) := by decide +kernel
theorem dX6_exploded_6 : decode cX6_exploded 6 = .ok (.ifCond .ne 6, 3) := by decide +kernel
theorem dX6_exploded_9 : decode cX6_exploded 9 = .ok (.ldc 77, 2) := by decide +kernel
theorem dX6_exploded_11 : decode cX6_exploded 11 = .ok (.ireturn, 1) := by decide +kernel
theorem dX6_exploded_12 : decode cX6_exploded 12 = .ok (.aload_n 0, 1) := by decide +kernel
theorem dX6_exploded_13 : decode cX6_exploded 13 = .ok (.iload_n 1, 1) := by decide +kernel
theorem dX6_exploded_14 : decode cX6_exploded 14 = .ok (.invokevirtual 254, 3) := by decide +kernel
theorem dX6_exploded_17 : decode cX6_exploded 17 = .ok (.ireturn, 1) := by decide +kernel
theorem dX6_explodedAt_0 : decode cX6_explodedAt 0 = .ok (.iload_n 1, 1) := by decide +kernel
theorem dX6_explodedAt_1 : decode cX6_explodedAt 1 = .ok (.bipush 6, 2) := by decide +kernel
theorem dX6_explodedAt_3 : decode cX6_explodedAt 3 = .ok (.invokestatic 57, 3) := by decide +kernel
theorem dX6_explodedAt_6 : decode cX6_explodedAt 6 = .ok (.ifCond .ne 6, 3) := by decide +kernel
theorem dX6_explodedAt_9 : decode cX6_explodedAt 9 = .ok (.ldc 77, 2) := by decide +kernel
theorem dX6_explodedAt_11 : decode cX6_explodedAt 11 = .ok (.ireturn, 1) := by decide +kernel
theorem dX6_explodedAt_12 : decode cX6_explodedAt 12 = .ok (.iload_n 3, 1) := by decide +kernel
theorem dX6_explodedAt_13 : decode cX6_explodedAt 13 = .ok (.ifCond .lt 14, 3) := by decide +kernel
theorem dX6_explodedAt_16 : decode cX6_explodedAt 16 = .ok (.iload 4, 2) := by decide +kernel
theorem dX6_explodedAt_18 : decode cX6_explodedAt 18 = .ok (.ifCond .lt 9, 3) := by decide +kernel
theorem dX6_explodedAt_21 : decode cX6_explodedAt 21 = .ok (.iload 4, 2) := by decide +kernel
theorem dX6_explodedAt_23 : decode cX6_explodedAt 23 = .ok (.iconst 2, 1) := by decide +kernel
theorem dX6_explodedAt_24 : decode cX6_explodedAt 24 = .ok (.if_icmp .le 6, 3) := by decide +kernel
theorem dX6_explodedAt_27 : decode cX6_explodedAt 27 = .ok (.ldc 61, 2) := by decide +kernel
theorem dX6_explodedAt_29 : decode cX6_explodedAt 29 = .ok (.ireturn, 1) := by decide +kernel
theorem dX6_explodedAt_30 : decode cX6_explodedAt 30 = .ok (.aload_n 0, 1) := by decide +kernel
theorem dX6_explodedAt_31 : decode cX6_explodedAt 31 = .ok (.iload_n 1, 1) := by decide +kernel
theorem dX6_explodedAt_32 : decode cX6_explodedAt 32 = .ok (.iload_n 2, 1) := by decide +kernel
theorem dX6_explodedAt_33 : decode cX6_explodedAt 33 = .ok (.invokevirtual 257, 3) := by decide +kernel
theorem dX6_explodedAt_36 : decode cX6_explodedAt 36 = .ok (.iload_n 3, 1) := by decide +kernel
theorem dX6_explodedAt_37 : decode cX6_explodedAt 37 = .ok (.aload_n 0, 1) := by decide +kernel
theorem dX6_explodedAt_38 : decode cX6_explodedAt 38 = .ok (.getfield 53, 3) := by decide +kernel
theorem dX6_explodedAt_41 : decode cX6_explodedAt 41 = .ok (.getfield 261, 3) := by decide +kernel
theorem dX6_explodedAt_44 : decode cX6_explodedAt 44 = .ok (.if_icmp .lt 6, 3) := by decide +kernel
theorem dX6_explodedAt_47 : decode cX6_explodedAt 47 = .ok (.ldc 95, 2) := by decide +kernel
theorem dX6_explodedAt_49 : decode cX6_explodedAt 49 = .ok (.ireturn, 1) := by decide +kernel
theorem dX6_explodedAt_50 : decode cX6_explodedAt 50 = .ok (.iload 4, 2) := by decide +kernel
theorem dX6_explodedAt_52 : decode cX6_explodedAt 52 = .ok (.lookupswitch 48 #[(0, 28), (1, 38)], 28) := by decide +kernel
theorem dX6_explodedAt_80 : decode cX6_explodedAt 80 = .ok (.aload_n 0, 1) := by decide +kernel
theorem dX6_explodedAt_81 : decode cX6_explodedAt 81 = .ok (.getfield 53, 3) := by decide +kernel
theorem dX6_explodedAt_84 : decode cX6_explodedAt 84 = .ok (.getfield 262, 3) := by decide +kernel
theorem dX6_explodedAt_87 : decode cX6_explodedAt 87 = .ok (.iload_n 3, 1) := by decide +kernel
theorem dX6_explodedAt_88 : decode cX6_explodedAt 88 = .ok (.iaload, 1) := by decide +kernel
theorem dX6_explodedAt_89 : decode cX6_explodedAt 89 = .ok (.ireturn, 1) := by decide +kernel
theorem dX6_explodedAt_90 : decode cX6_explodedAt 90 = .ok (.aload_n 0, 1) := by decide +kernel
theorem dX6_explodedAt_91 : decode cX6_explodedAt 91 = .ok (.getfield 53, 3) := by decide +kernel
theorem dX6_explodedAt_94 : decode cX6_explodedAt 94 = .ok (.getfield 265, 3) := by decide +kernel
theorem dX6_explodedAt_97 : decode cX6_explodedAt 97 = .ok (.iload_n 3, 1) := by decide +kernel
theorem dX6_explodedAt_98 : decode cX6_explodedAt 98 = .ok (.iaload, 1) := by decide +kernel
theorem dX6_explodedAt_99 : decode cX6_explodedAt 99 = .ok (.ireturn, 1) := by decide +kernel
theorem dX6_explodedAt_100 : decode cX6_explodedAt 100 = .ok (.aload_n 0, 1) := by decide +kernel
theorem dX6_explodedAt_101 : decode cX6_explodedAt 101 = .ok (.getfield 53, 3) := by decide +kernel
theorem dX6_explodedAt_104 : decode cX6_explodedAt 104 = .ok (.getfield 268, 3) := by decide +kernel
theorem dX6_explodedAt_107 : decode cX6_explodedAt 107 = .ok (.iload_n 3, 1) := by decide +kernel
theorem dX6_explodedAt_108 : decode cX6_explodedAt 108 = .ok (.iaload, 1) := by decide +kernel
theorem dX6_explodedAt_109 : decode cX6_explodedAt 109 = .ok (.ireturn, 1) := by decide +kernel
theorem dX6_total_0 : decode cX6_total 0 = .ok (.iload_n 1, 1) := by decide +kernel
theorem dX6_total_1 : decode cX6_total 1 = .ok (.bipush 6, 2) := by decide +kernel
theorem dX6_total_3 : decode cX6_total 3 = .ok (.invokestatic 57, 3) := by decide +kernel
theorem dX6_total_6 : decode cX6_total 6 = .ok (.ifCond .eq 17, 3) := by decide +kernel
theorem dX6_total_9 : decode cX6_total 9 = .ok (.iload_n 2, 1) := by decide +kernel
theorem dX6_total_10 : decode cX6_total 10 = .ok (.iconst (-1), 1) := by decide +kernel
theorem dX6_total_11 : decode cX6_total 11 = .ok (.if_icmp .eq 15, 3) := by decide +kernel
theorem dX6_total_14 : decode cX6_total 14 = .ok (.iload_n 2, 1) := by decide +kernel
theorem dX6_total_15 : decode cX6_total 15 = .ok (.bipush 8, 2) := by decide +kernel
theorem dX6_total_17 : decode cX6_total 17 = .ok (.invokestatic 57, 3) := by decide +kernel
theorem dX6_total_20 : decode cX6_total 20 = .ok (.ifCond .ne 6, 3) := by decide +kernel
theorem dX6_total_23 : decode cX6_total 23 = .ok (.ldc 77, 2) := by decide +kernel
theorem dX6_total_25 : decode cX6_total 25 = .ok (.ireturn, 1) := by decide +kernel
theorem dX6_total_26 : decode cX6_total 26 = .ok (.aload_n 0, 1) := by decide +kernel
theorem dX6_total_27 : decode cX6_total 27 = .ok (.iload_n 1, 1) := by decide +kernel
theorem dX6_total_28 : decode cX6_total 28 = .ok (.iload_n 2, 1) := by decide +kernel
theorem dX6_total_29 : decode cX6_total 29 = .ok (.invokevirtual 271, 3) := by decide +kernel
theorem dX6_total_32 : decode cX6_total 32 = .ok (.ireturn, 1) := by decide +kernel
theorem dX6_mean_0 : decode cX6_mean 0 = .ok (.iload_n 1, 1) := by decide +kernel
theorem dX6_mean_1 : decode cX6_mean 1 = .ok (.bipush 6, 2) := by decide +kernel
theorem dX6_mean_3 : decode cX6_mean 3 = .ok (.invokestatic 57, 3) := by decide +kernel
theorem dX6_mean_6 : decode cX6_mean 6 = .ok (.ifCond .ne 7, 3) := by decide +kernel
theorem dX6_mean_9 : decode cX6_mean 9 = .ok (.ldc_w 274, 3) := by decide +kernel
theorem dX6_mean_12 : decode cX6_mean 12 = .ok (.freturn, 1) := by decide +kernel
theorem dX6_mean_13 : decode cX6_mean 13 = .ok (.aload_n 0, 1) := by decide +kernel
theorem dX6_mean_14 : decode cX6_mean 14 = .ok (.iload_n 1, 1) := by decide +kernel
theorem dX6_mean_15 : decode cX6_mean 15 = .ok (.invokevirtual 254, 3) := by decide +kernel
theorem dX6_mean_18 : decode cX6_mean 18 = .ok (.istore_n 2, 1) := by decide +kernel
theorem dX6_mean_19 : decode cX6_mean 19 = .ok (.iload_n 2, 1) := by decide +kernel
theorem dX6_mean_20 : decode cX6_mean 20 = .ok (.ifCond .ne 5, 3) := by decide +kernel
theorem dX6_mean_23 : decode cX6_mean 23 = .ok (.fconst 0, 1) := by decide +kernel
theorem dX6_mean_24 : decode cX6_mean 24 = .ok (.freturn, 1) := by decide +kernel
theorem dX6_mean_25 : decode cX6_mean 25 = .ok (.aload_n 0, 1) := by decide +kernel
theorem dX6_mean_26 : decode cX6_mean 26 = .ok (.iload_n 1, 1) := by decide +kernel
theorem dX6_mean_27 : decode cX6_mean 27 = .ok (.iconst (-1), 1) := by decide +kernel
theorem dX6_mean_28 : decode cX6_mean 28 = .ok (.invokevirtual 271, 3) := by decide +kernel
theorem dX6_mean_31 : decode cX6_mean 31 = .ok (.i2f, 1) := by decide +kernel
theorem dX6_mean_32 : decode cX6_mean 32 = .ok (.iload_n 2, 1) := by decide +kernel
theorem dX6_mean_33 : decode cX6_mean 33 = .ok (.i2f, 1) := by decide +kernel
theorem dX6_mean_34 : decode cX6_mean 34 = .ok (.fdiv, 1) := by decide +kernel
theorem dX6_mean_35 : decode cX6_mean 35 = .ok (.freturn, 1) := by decide +kernel
theorem dX6_repeated_0 : decode cX6_repeated 0 = .ok (.iload_n 1, 1) := by decide +kernel
theorem dX6_repeated_1 : decode cX6_repeated 1 = .ok (.bipush 6, 2) := by decide +kernel
theorem dX6_repeated_3 : decode cX6_repeated 3 = .ok (.invokestatic 57, 3) := by decide +kernel
theorem dX6_repeated_6 : decode cX6_repeated 6 = .ok (.ifCond .ne 6, 3) := by decide +kernel
theorem dX6_repeated_9 : decode cX6_repeated 9 = .ok (.ldc 77, 2) := by decide +kernel
theorem dX6_repeated_11 : decode cX6_repeated 11 = .ok (.ireturn, 1) := by decide +kernel
theorem dX6_repeated_12 : decode cX6_repeated 12 = .ok (.aload_n 0, 1) := by decide +kernel
theorem dX6_repeated_13 : decode cX6_repeated 13 = .ok (.iload_n 1, 1) := by decide +kernel
theorem dX6_repeated_14 : decode cX6_repeated 14 = .ok (.iconst 0, 1) := by decide +kernel
theorem dX6_repeated_15 : decode cX6_repeated 15 = .ok (.invokevirtual 257, 3) := by decide +kernel
theorem dX6_repeated_18 : decode cX6_repeated 18 = .ok (.iconst 0, 1) := by decide +kernel
theorem dX6_repeated_19 : decode cX6_repeated 19 = .ok (.istore_n 2, 1) := by decide +kernel
theorem dX6_repeated_20 : decode cX6_repeated 20 = .ok (.iconst 1, 1) := by decide +kernel
theorem dX6_repeated_21 : decode cX6_repeated 21 = .ok (.istore_n 3, 1) := by decide +kernel
theorem dX6_repeated_22 : decode cX6_repeated 22 = .ok (.iconst 1, 1) := by decide +kernel
theorem dX6_repeated_23 : decode cX6_repeated 23 = .ok (.istore 4, 2) := by decide +kernel
theorem dX6_repeated_25 : decode cX6_repeated 25 = .ok (.iload 4, 2) := by decide +kernel
theorem dX6_repeated_27 : decode cX6_repeated 27 = .ok (.aload_n 0, 1) := by decide +kernel
theorem dX6_repeated_28 : decode cX6_repeated 28 = .ok (.getfield 53, 3) := by decide +kernel
theorem dX6_repeated_31 : decode cX6_repeated 31 = .ok (.getfield 261, 3) := by decide +kernel
theorem dX6_repeated_34 : decode cX6_repeated 34 = .ok (.if_icmp .ge 62, 3) := by decide +kernel
theorem dX6_repeated_37 : decode cX6_repeated 37 = .ok (.aload_n 0, 1) := by decide +kernel
theorem dX6_repeated_38 : decode cX6_repeated 38 = .ok (.getfield 53, 3) := by decide +kernel
theorem dX6_repeated_41 : decode cX6_repeated 41 = .ok (.getfield 262, 3) := by decide +kernel
theorem dX6_repeated_44 : decode cX6_repeated 44 = .ok (.iload 4, 2) := by decide +kernel
theorem dX6_repeated_46 : decode cX6_repeated 46 = .ok (.iaload, 1) := by decide +kernel
theorem dX6_repeated_47 : decode cX6_repeated 47 = .ok (.aload_n 0, 1) := by decide +kernel
theorem dX6_repeated_48 : decode cX6_repeated 48 = .ok (.getfield 53, 3) := by decide +kernel
theorem dX6_repeated_51 : decode cX6_repeated 51 = .ok (.getfield 262, 3) := by decide +kernel
theorem dX6_repeated_54 : decode cX6_repeated 54 = .ok (.iload 4, 2) := by decide +kernel
theorem dX6_repeated_56 : decode cX6_repeated 56 = .ok (.iconst 1, 1) := by decide +kernel
theorem dX6_repeated_57 : decode cX6_repeated 57 = .ok (.isub, 1) := by decide +kernel
theorem dX6_repeated_58 : decode cX6_repeated 58 = .ok (.iaload, 1) := by decide +kernel
theorem dX6_repeated_59 : decode cX6_repeated 59 = .ok (.if_icmp .ne 7, 3) := by decide +kernel
theorem dX6_repeated_62 : decode cX6_repeated 62 = .ok (.iconst 1, 1) := by decide +kernel
theorem dX6_repeated_63 : decode cX6_repeated 63 = .ok (.goto 4, 3) := by decide +kernel
theorem dX6_repeated_66 : decode cX6_repeated 66 = .ok (.iconst 0, 1) := by decide +kernel
theorem dX6_repeated_67 : decode cX6_repeated 67 = .ok (.istore 5, 2) := by decide +kernel
theorem dX6_repeated_69 : decode cX6_repeated 69 = .ok (.iload 5, 2) := by decide +kernel
theorem dX6_repeated_71 : decode cX6_repeated 71 = .ok (.ifCond .eq 9, 3) := by decide +kernel
theorem dX6_repeated_74 : decode cX6_repeated 74 = .ok (.iload_n 3, 1) := by decide +kernel
theorem dX6_repeated_75 : decode cX6_repeated 75 = .ok (.iconst 1, 1) := by decide +kernel
theorem dX6_repeated_76 : decode cX6_repeated 76 = .ok (.iadd, 1) := by decide +kernel
theorem dX6_repeated_77 : decode cX6_repeated 77 = .ok (.goto 4, 3) := by decide +kernel
theorem dX6_repeated_80 : decode cX6_repeated 80 = .ok (.iconst 1, 1) := by decide +kernel
theorem dX6_repeated_81 : decode cX6_repeated 81 = .ok (.istore_n 3, 1) := by decide +kernel
theorem dX6_repeated_82 : decode cX6_repeated 82 = .ok (.iload_n 3, 1) := by decide +kernel
theorem dX6_repeated_83 : decode cX6_repeated 83 = .ok (.iconst 2, 1) := by decide +kernel
theorem dX6_repeated_84 : decode cX6_repeated 84 = .ok (.if_icmp .ne 6, 3) := by decide +kernel
theorem dX6_repeated_87 : decode cX6_repeated 87 = .ok (.iinc 2 1, 3) := by decide +kernel
theorem dX6_repeated_90 : decode cX6_repeated 90 = .ok (.iinc 4 1, 3) := by decide +kernel
theorem dX6_repeated_93 : decode cX6_repeated 93 = .ok (.goto (-68), 3) := by decide +kernel
theorem dX6_repeated_96 : decode cX6_repeated 96 = .ok (.iload_n 2, 1) := by decide +kernel
theorem dX6_repeated_97 : decode cX6_repeated 97 = .ok (.ireturn, 1) := by decide +kernel
theorem dX6_entryCount_0 : decode cX6_entryCount 0 = .ok (.iconst 0, 1) := by decide +kernel
theorem dX6_entryCount_1 : decode cX6_entryCount 1 = .ok (.istore_n 2, 1) := by decide +kernel
theorem dX6_entryCount_2 : decode cX6_entryCount 2 = .ok (.iconst 0, 1) := by decide +kernel
theorem dX6_entryCount_3 : decode cX6_entryCount 3 = .ok (.istore_n 3, 1) := by decide +kernel
end
section
theorem dX6_entryCount_4 : decode cX6_entryCount 4 = .ok (.iload_n 3, 1) := by decide +kernel
theorem dX6_entryCount_5 : decode cX6_entryCount 5 = .ok (.aload_n 0, 1) := by decide +kernel
theorem dX6_entryCount_6 : decode cX6_entryCount 6 = .ok (.getfield 12, 3) := by decide +kernel
theorem dX6_entryCount_9 : decode cX6_entryCount 9 = .ok (.getfield 67, 3) := by decide +kernel
theorem dX6_entryCount_12 : decode cX6_entryCount 12 = .ok (.if_icmp .ge 40, 3) := by decide +kernel
theorem dX6_entryCount_15 : decode cX6_entryCount 15 = .ok (.aload_n 0, 1) := by decide +kernel
theorem dX6_entryCount_16 : decode cX6_entryCount 16 = .ok (.getfield 12, 3) := by decide +kernel
theorem dX6_entryCount_19 : decode cX6_entryCount 19 = .ok (.aload_n 0, 1) := by decide +kernel
theorem dX6_entryCount_20 : decode cX6_entryCount 20 = .ok (.getfield 12, 3) := by decide +kernel
theorem dX6_entryCount_23 : decode cX6_entryCount 23 = .ok (.getfield 189, 3) := by decide +kernel
theorem dX6_entryCount_26 : decode cX6_entryCount 26 = .ok (.iload_n 3, 1) := by decide +kernel
theorem dX6_entryCount_27 : decode cX6_entryCount 27 = .ok (.aaload, 1) := by decide +kernel
theorem dX6_entryCount_28 : decode cX6_entryCount 28 = .ok (.iload_n 1, 1) := by decide +kernel
theorem dX6_entryCount_29 : decode cX6_entryCount 29 = .ok (.aload_n 0, 1) := by decide +kernel
theorem dX6_entryCount_30 : decode cX6_entryCount 30 = .ok (.getfield 46, 3) := by decide +kernel
theorem dX6_entryCount_33 : decode cX6_entryCount 33 = .ok (.invokevirtual 193, 3) := by decide +kernel
theorem dX6_entryCount_36 : decode cX6_entryCount 36 = .ok (.iload_n 2, 1) := by decide +kernel
theorem dX6_entryCount_37 : decode cX6_entryCount 37 = .ok (.aload_n 0, 1) := by decide +kernel
theorem dX6_entryCount_38 : decode cX6_entryCount 38 = .ok (.getfield 46, 3) := by decide +kernel
theorem dX6_entryCount_41 : decode cX6_entryCount 41 = .ok (.getfield 211, 3) := by decide +kernel
theorem dX6_entryCount_44 : decode cX6_entryCount 44 = .ok (.iadd, 1) := by decide +kernel
theorem dX6_entryCount_45 : decode cX6_entryCount 45 = .ok (.istore_n 2, 1) := by decide +kernel
theorem dX6_entryCount_46 : decode cX6_entryCount 46 = .ok (.iinc 3 1, 3) := by decide +kernel
theorem dX6_entryCount_49 : decode cX6_entryCount 49 = .ok (.goto (-45), 3) := by decide +kernel
theorem dX6_entryCount_52 : decode cX6_entryCount 52 = .ok (.iload_n 2, 1) := by decide +kernel
theorem dX6_entryCount_53 : decode cX6_entryCount 53 = .ok (.ireturn, 1) := by decide +kernel
theorem dX6_sumOf_0 : decode cX6_sumOf 0 = .ok (.iconst 0, 1) := by decide +kernel
theorem dX6_sumOf_1 : decode cX6_sumOf 1 = .ok (.istore_n 3, 1) := by decide +kernel
theorem dX6_sumOf_2 : decode cX6_sumOf 2 = .ok (.iconst 0, 1) := by decide +kernel
theorem dX6_sumOf_3 : decode cX6_sumOf 3 = .ok (.istore 4, 2) := by decide +kernel
theorem dX6_sumOf_5 : decode cX6_sumOf 5 = .ok (.iload 4, 2) := by decide +kernel
theorem dX6_sumOf_7 : decode cX6_sumOf 7 = .ok (.aload_n 0, 1) := by decide +kernel
theorem dX6_sumOf_8 : decode cX6_sumOf 8 = .ok (.getfield 12, 3) := by decide +kernel
theorem dX6_sumOf_11 : decode cX6_sumOf 11 = .ok (.getfield 67, 3) := by decide +kernel
theorem dX6_sumOf_14 : decode cX6_sumOf 14 = .ok (.if_icmp .ge 66, 3) := by decide +kernel
theorem dX6_sumOf_17 : decode cX6_sumOf 17 = .ok (.aload_n 0, 1) := by decide +kernel
theorem dX6_sumOf_18 : decode cX6_sumOf 18 = .ok (.getfield 12, 3) := by decide +kernel
theorem dX6_sumOf_21 : decode cX6_sumOf 21 = .ok (.getfield 189, 3) := by decide +kernel
theorem dX6_sumOf_24 : decode cX6_sumOf 24 = .ok (.iload 4, 2) := by decide +kernel
theorem dX6_sumOf_26 : decode cX6_sumOf 26 = .ok (.aaload, 1) := by decide +kernel
theorem dX6_sumOf_27 : decode cX6_sumOf 27 = .ok (.astore 5, 2) := by decide +kernel
theorem dX6_sumOf_29 : decode cX6_sumOf 29 = .ok (.iload_n 2, 1) := by decide +kernel
theorem dX6_sumOf_30 : decode cX6_sumOf 30 = .ok (.iconst (-1), 1) := by decide +kernel
theorem dX6_sumOf_31 : decode cX6_sumOf 31 = .ok (.if_icmp .eq 19, 3) := by decide +kernel
theorem dX6_sumOf_34 : decode cX6_sumOf 34 = .ok (.aload_n 0, 1) := by decide +kernel
theorem dX6_sumOf_35 : decode cX6_sumOf 35 = .ok (.getfield 12, 3) := by decide +kernel
theorem dX6_sumOf_38 : decode cX6_sumOf 38 = .ok (.iload_n 2, 1) := by decide +kernel
theorem dX6_sumOf_39 : decode cX6_sumOf 39 = .ok (.aload 5, 2) := by decide +kernel
theorem dX6_sumOf_41 : decode cX6_sumOf 41 = .ok (.getfield 201, 3) := by decide +kernel
theorem dX6_sumOf_44 : decode cX6_sumOf 44 = .ok (.invokevirtual 220, 3) := by decide +kernel
theorem dX6_sumOf_47 : decode cX6_sumOf 47 = .ok (.ifCond .eq 27, 3) := by decide +kernel
theorem dX6_sumOf_50 : decode cX6_sumOf 50 = .ok (.aload_n 0, 1) := by decide +kernel
theorem dX6_sumOf_51 : decode cX6_sumOf 51 = .ok (.getfield 12, 3) := by decide +kernel
theorem dX6_sumOf_54 : decode cX6_sumOf 54 = .ok (.aload 5, 2) := by decide +kernel
theorem dX6_sumOf_56 : decode cX6_sumOf 56 = .ok (.iload_n 1, 1) := by decide +kernel
theorem dX6_sumOf_57 : decode cX6_sumOf 57 = .ok (.aload_n 0, 1) := by decide +kernel
theorem dX6_sumOf_58 : decode cX6_sumOf 58 = .ok (.getfield 46, 3) := by decide +kernel
theorem dX6_sumOf_61 : decode cX6_sumOf 61 = .ok (.invokevirtual 193, 3) := by decide +kernel
theorem dX6_sumOf_64 : decode cX6_sumOf 64 = .ok (.iload_n 3, 1) := by decide +kernel
theorem dX6_sumOf_65 : decode cX6_sumOf 65 = .ok (.aload_n 0, 1) := by decide +kernel
theorem dX6_sumOf_66 : decode cX6_sumOf 66 = .ok (.getfield 46, 3) := by decide +kernel
theorem dX6_sumOf_69 : decode cX6_sumOf 69 = .ok (.invokevirtual 275, 3) := by decide +kernel
theorem dX6_sumOf_72 : decode cX6_sumOf 72 = .ok (.iadd, 1) := by decide +kernel
theorem dX6_sumOf_73 : decode cX6_sumOf 73 = .ok (.istore_n 3, 1) := by decide +kernel
theorem dX6_sumOf_74 : decode cX6_sumOf 74 = .ok (.iinc 4 1, 3) := by decide +kernel
theorem dX6_sumOf_77 : decode cX6_sumOf 77 = .ok (.goto (-72), 3) := by decide +kernel
theorem dX6_sumOf_80 : decode cX6_sumOf 80 = .ok (.iload_n 3, 1) := by decide +kernel
theorem dX6_sumOf_81 : decode cX6_sumOf 81 = .ok (.ireturn, 1) := by decide +kernel
theorem dX6_explode_0 : decode cX6_explode 0 = .ok (.aload_n 0, 1) := by decide +kernel
theorem dX6_explode_1 : decode cX6_explode 1 = .ok (.getfield 53, 3) := by decide +kernel
theorem dX6_explode_4 : decode cX6_explode 4 = .ok (.iload_n 2, 1) := by decide +kernel
theorem dX6_explode_5 : decode cX6_explode 5 = .ok (.invokevirtual 278, 3) := by decide +kernel
theorem dX6_explode_8 : decode cX6_explode 8 = .ok (.iconst 0, 1) := by decide +kernel
theorem dX6_explode_9 : decode cX6_explode 9 = .ok (.istore_n 3, 1) := by decide +kernel
theorem dX6_explode_10 : decode cX6_explode 10 = .ok (.iload_n 3, 1) := by decide +kernel
theorem dX6_explode_11 : decode cX6_explode 11 = .ok (.aload_n 0, 1) := by decide +kernel
theorem dX6_explode_12 : decode cX6_explode 12 = .ok (.getfield 12, 3) := by decide +kernel
theorem dX6_explode_15 : decode cX6_explode 15 = .ok (.getfield 67, 3) := by decide +kernel
theorem dX6_explode_18 : decode cX6_explode 18 = .ok (.if_icmp .ge 78, 3) := by decide +kernel
theorem dX6_explode_21 : decode cX6_explode 21 = .ok (.aload_n 0, 1) := by decide +kernel
theorem dX6_explode_22 : decode cX6_explode 22 = .ok (.getfield 12, 3) := by decide +kernel
theorem dX6_explode_25 : decode cX6_explode 25 = .ok (.getfield 189, 3) := by decide +kernel
theorem dX6_explode_28 : decode cX6_explode 28 = .ok (.iload_n 3, 1) := by decide +kernel
theorem dX6_explode_29 : decode cX6_explode 29 = .ok (.aaload, 1) := by decide +kernel
theorem dX6_explode_30 : decode cX6_explode 30 = .ok (.astore 4, 2) := by decide +kernel
theorem dX6_explode_32 : decode cX6_explode 32 = .ok (.aload_n 0, 1) := by decide +kernel
theorem dX6_explode_33 : decode cX6_explode 33 = .ok (.getfield 12, 3) := by decide +kernel
theorem dX6_explode_36 : decode cX6_explode 36 = .ok (.aload 4, 2) := by decide +kernel
theorem dX6_explode_38 : decode cX6_explode 38 = .ok (.iload_n 1, 1) := by decide +kernel
theorem dX6_explode_39 : decode cX6_explode 39 = .ok (.aload_n 0, 1) := by decide +kernel
theorem dX6_explode_40 : decode cX6_explode 40 = .ok (.getfield 46, 3) := by decide +kernel
theorem dX6_explode_43 : decode cX6_explode 43 = .ok (.invokevirtual 193, 3) := by decide +kernel
theorem dX6_explode_46 : decode cX6_explode 46 = .ok (.iconst 0, 1) := by decide +kernel
theorem dX6_explode_47 : decode cX6_explode 47 = .ok (.istore 5, 2) := by decide +kernel
theorem dX6_explode_49 : decode cX6_explode 49 = .ok (.iload 5, 2) := by decide +kernel
theorem dX6_explode_51 : decode cX6_explode 51 = .ok (.aload_n 0, 1) := by decide +kernel
theorem dX6_explode_52 : decode cX6_explode 52 = .ok (.getfield 46, 3) := by decide +kernel
theorem dX6_explode_55 : decode cX6_explode 55 = .ok (.getfield 211, 3) := by decide +kernel
theorem dX6_explode_58 : decode cX6_explode 58 = .ok (.if_icmp .ge 32, 3) := by decide +kernel
theorem dX6_explode_61 : decode cX6_explode 61 = .ok (.aload_n 0, 1) := by decide +kernel
theorem dX6_explode_62 : decode cX6_explode 62 = .ok (.getfield 53, 3) := by decide +kernel
theorem dX6_explode_65 : decode cX6_explode 65 = .ok (.aload_n 0, 1) := by decide +kernel
theorem dX6_explode_66 : decode cX6_explode 66 = .ok (.getfield 46, 3) := by decide +kernel
theorem dX6_explode_69 : decode cX6_explode 69 = .ok (.iload 5, 2) := by decide +kernel
theorem dX6_explode_71 : decode cX6_explode 71 = .ok (.invokevirtual 214, 3) := by decide +kernel
theorem dX6_explode_74 : decode cX6_explode 74 = .ok (.aload 4, 2) := by decide +kernel
theorem dX6_explode_76 : decode cX6_explode 76 = .ok (.getfield 201, 3) := by decide +kernel
theorem dX6_explode_79 : decode cX6_explode 79 = .ok (.iload 5, 2) := by decide +kernel
theorem dX6_explode_81 : decode cX6_explode 81 = .ok (.invokevirtual 282, 3) := by decide +kernel
theorem dX6_explode_84 : decode cX6_explode 84 = .ok (.iinc 5 1, 3) := by decide +kernel
theorem dX6_explode_87 : decode cX6_explode 87 = .ok (.goto (-38), 3) := by decide +kernel
theorem dX6_explode_90 : decode cX6_explode 90 = .ok (.iinc 3 1, 3) := by decide +kernel
theorem dX6_explode_93 : decode cX6_explode 93 = .ok (.goto (-83), 3) := by decide +kernel
theorem dX6_explode_96 : decode cX6_explode 96 = .ok (.return_, 1) := by decide +kernel
theorem dX6_isBelow_0 : decode cX6_isBelow 0 = .ok (.iload_n 0, 1) := by decide +kernel
theorem dX6_isBelow_1 : decode cX6_isBelow 1 = .ok (.ifCond .lt 12, 3) := by decide +kernel
theorem dX6_isBelow_4 : decode cX6_isBelow 4 = .ok (.iload_n 0, 1) := by decide +kernel
theorem dX6_isBelow_5 : decode cX6_isBelow 5 = .ok (.iload_n 1, 1) := by decide +kernel
theorem dX6_isBelow_6 : decode cX6_isBelow 6 = .ok (.if_icmp .ge 7, 3) := by decide +kernel
theorem dX6_isBelow_9 : decode cX6_isBelow 9 = .ok (.iconst 1, 1) := by decide +kernel
theorem dX6_isBelow_10 : decode cX6_isBelow 10 = .ok (.goto 4, 3) := by decide +kernel
theorem dX6_isBelow_13 : decode cX6_isBelow 13 = .ok (.iconst 0, 1) := by decide +kernel
theorem dX6_isBelow_14 : decode cX6_isBelow 14 = .ok (.ireturn, 1) := by decide +kernel
theorem dX6_isNumber_0 : decode cX6_isNumber 0 = .ok (.iload_n 0, 1) := by decide +kernel
theorem dX6_isNumber_1 : decode cX6_isNumber 1 = .ok (.sipush (-999), 3) := by decide +kernel
theorem dX6_isNumber_4 : decode cX6_isNumber 4 = .ok (.if_icmp .lt 14, 3) := by decide +kernel
theorem dX6_isNumber_7 : decode cX6_isNumber 7 = .ok (.iload_n 0, 1) := by decide +kernel
theorem dX6_isNumber_8 : decode cX6_isNumber 8 = .ok (.sipush 999, 3) := by decide +kernel
theorem dX6_isNumber_11 : decode cX6_isNumber 11 = .ok (.if_icmp .gt 7, 3) := by decide +kernel
theorem dX6_isNumber_14 : decode cX6_isNumber 14 = .ok (.iconst 1, 1) := by decide +kernel
theorem dX6_isNumber_15 : decode cX6_isNumber 15 = .ok (.goto 4, 3) := by decide +kernel
theorem dX6_isNumber_18 : decode cX6_isNumber 18 = .ok (.iconst 0, 1) := by decide +kernel
theorem dX6_isNumber_19 : decode cX6_isNumber 19 = .ok (.ireturn, 1) := by decide +kernel
end
section
theorem dX7_init_0 : decode cX7_init 0 = .ok (.aload_n 0, 1) := by decide +kernel
theorem dX7_init_1 : decode cX7_init 1 = .ok (.invokespecial 1, 3) := by decide +kernel
theorem dX7_init_4 : decode cX7_init 4 = .ok (.aload_n 0, 1) := by decide +kernel
theorem dX7_init_5 : decode cX7_init 5 = .ok (.sipush 1115, 3) := by decide +kernel
theorem dX7_init_8 : decode cX7_init 8 = .ok (.newarray .int, 2) := by decide +kernel
theorem dX7_init_10 : decode cX7_init 10 = .ok (.putfield 7, 3) := by decide +kernel
theorem dX7_init_13 : decode cX7_init 13 = .ok (.aload_n 0, 1) := by decide +kernel
theorem dX7_init_14 : decode cX7_init 14 = .ok (.sipush 1115, 3) := by decide +kernel
theorem dX7_init_17 : decode cX7_init 17 = .ok (.newarray .int, 2) := by decide +kernel
theorem dX7_init_19 : decode cX7_init 19 = .ok (.putfield 13, 3) := by decide +kernel
theorem dX7_init_22 : decode cX7_init 22 = .ok (.aload_n 0, 1) := by decide +kernel
theorem dX7_init_23 : decode cX7_init 23 = .ok (.sipush 4460, 3) := by decide +kernel
theorem dX7_init_26 : decode cX7_init 26 = .ok (.newarray .int, 2) := by decide +kernel
theorem dX7_init_28 : decode cX7_init 28 = .ok (.putfield 16, 3) := by decide +kernel
theorem dX7_init_31 : decode cX7_init 31 = .ok (.aload_n 0, 1) := by decide +kernel
theorem dX7_init_32 : decode cX7_init 32 = .ok (.bipush 90, 2) := by decide +kernel
theorem dX7_init_34 : decode cX7_init 34 = .ok (.newarray .int, 2) := by decide +kernel
theorem dX7_init_36 : decode cX7_init 36 = .ok (.putfield 19, 3) := by decide +kernel
theorem dX7_init_39 : decode cX7_init 39 = .ok (.aload_n 0, 1) := by decide +kernel
theorem dX7_init_40 : decode cX7_init 40 = .ok (.sipush 500, 3) := by decide +kernel
theorem dX7_init_43 : decode cX7_init 43 = .ok (.newarray .int, 2) := by decide +kernel
theorem dX7_init_45 : decode cX7_init 45 = .ok (.putfield 22, 3) := by decide +kernel
theorem dX7_init_48 : decode cX7_init 48 = .ok (.aload_n 0, 1) := by decide +kernel
theorem dX7_init_49 : decode cX7_init 49 = .ok (.bipush 20, 2) := by decide +kernel
theorem dX7_init_51 : decode cX7_init 51 = .ok (.newarray .int, 2) := by decide +kernel
theorem dX7_init_53 : decode cX7_init 53 = .ok (.putfield 25, 3) := by decide +kernel
theorem dX7_init_56 : decode cX7_init 56 = .ok (.aload_n 0, 1) := by decide +kernel
theorem dX7_init_57 : decode cX7_init 57 = .ok (.sipush 200, 3) := by decide +kernel
theorem dX7_init_60 : decode cX7_init 60 = .ok (.newarray .int, 2) := by decide +kernel
theorem dX7_init_62 : decode cX7_init 62 = .ok (.putfield 28, 3) := by decide +kernel
theorem dX7_init_65 : decode cX7_init 65 = .ok (.aload_n 0, 1) := by decide +kernel
theorem dX7_init_66 : decode cX7_init 66 = .ok (.sipush 200, 3) := by decide +kernel
theorem dX7_init_69 : decode cX7_init 69 = .ok (.newarray .int, 2) := by decide +kernel
theorem dX7_init_71 : decode cX7_init 71 = .ok (.putfield 31, 3) := by decide +kernel
theorem dX7_init_74 : decode cX7_init 74 = .ok (.aload_n 0, 1) := by decide +kernel
theorem dX7_init_75 : decode cX7_init 75 = .ok (.sipush 200, 3) := by decide +kernel
theorem dX7_init_78 : decode cX7_init 78 = .ok (.newarray .int, 2) := by decide +kernel
theorem dX7_init_80 : decode cX7_init 80 = .ok (.putfield 34, 3) := by decide +kernel
theorem dX7_init_83 : decode cX7_init 83 = .ok (.aload_n 0, 1) := by decide +kernel
theorem dX7_init_84 : decode cX7_init 84 = .ok (.getfield 7, 3) := by decide +kernel
theorem dX7_init_87 : decode cX7_init 87 = .ok (.iconst 2, 1) := by decide +kernel
theorem dX7_init_88 : decode cX7_init 88 = .ok (.iconst 1, 1) := by decide +kernel
theorem dX7_init_89 : decode cX7_init 89 = .ok (.iastore, 1) := by decide +kernel
theorem dX7_init_90 : decode cX7_init 90 = .ok (.aload_n 0, 1) := by decide +kernel
theorem dX7_init_91 : decode cX7_init 91 = .ok (.getfield 7, 3) := by decide +kernel
theorem dX7_init_94 : decode cX7_init 94 = .ok (.iconst 3, 1) := by decide +kernel
theorem dX7_init_95 : decode cX7_init 95 = .ok (.iconst 1, 1) := by decide +kernel
theorem dX7_init_96 : decode cX7_init 96 = .ok (.iastore, 1) := by decide +kernel
theorem dX7_init_97 : decode cX7_init 97 = .ok (.iconst 0, 1) := by decide +kernel
theorem dX7_init_98 : decode cX7_init 98 = .ok (.istore_n 1, 1) := by decide +kernel
theorem dX7_init_99 : decode cX7_init 99 = .ok (.iload_n 1, 1) := by decide +kernel
theorem dX7_init_100 : decode cX7_init 100 = .ok (.iconst 4, 1) := by decide +kernel
theorem dX7_init_101 : decode cX7_init 101 = .ok (.if_icmp .ge 22, 3) := by decide +kernel
theorem dX7_init_104 : decode cX7_init 104 = .ok (.aload_n 0, 1) := by decide +kernel
theorem dX7_init_105 : decode cX7_init 105 = .ok (.getfield 7, 3) := by decide +kernel
theorem dX7_init_108 : decode cX7_init 108 = .ok (.iconst 5, 1) := by decide +kernel
theorem dX7_init_109 : decode cX7_init 109 = .ok (.iconst 3, 1) := by decide +kernel
theorem dX7_init_110 : decode cX7_init 110 = .ok (.iload_n 1, 1) := by decide +kernel
theorem dX7_init_111 : decode cX7_init 111 = .ok (.imul, 1) := by decide +kernel
theorem dX7_init_112 : decode cX7_init 112 = .ok (.iadd, 1) := by decide +kernel
theorem dX7_init_113 : decode cX7_init 113 = .ok (.iconst 1, 1) := by decide +kernel
theorem dX7_init_114 : decode cX7_init 114 = .ok (.iadd, 1) := by decide +kernel
theorem dX7_init_115 : decode cX7_init 115 = .ok (.iload_n 1, 1) := by decide +kernel
theorem dX7_init_116 : decode cX7_init 116 = .ok (.iastore, 1) := by decide +kernel
theorem dX7_init_117 : decode cX7_init 117 = .ok (.iinc 1 1, 3) := by decide +kernel
theorem dX7_init_120 : decode cX7_init 120 = .ok (.goto (-21), 3) := by decide +kernel
theorem dX7_init_123 : decode cX7_init 123 = .ok (.aload_n 0, 1) := by decide +kernel
theorem dX7_init_124 : decode cX7_init 124 = .ok (.getfield 7, 3) := by decide +kernel
theorem dX7_init_127 : decode cX7_init 127 = .ok (.bipush 17, 2) := by decide +kernel
theorem dX7_init_129 : decode cX7_init 129 = .ok (.iconst 1, 1) := by decide +kernel
theorem dX7_init_130 : decode cX7_init 130 = .ok (.iastore, 1) := by decide +kernel
theorem dX7_init_131 : decode cX7_init 131 = .ok (.aload_n 0, 1) := by decide +kernel
theorem dX7_init_132 : decode cX7_init 132 = .ok (.getfield 7, 3) := by decide +kernel
theorem dX7_init_135 : decode cX7_init 135 = .ok (.bipush 20, 2) := by decide +kernel
theorem dX7_init_137 : decode cX7_init 137 = .ok (.iconst 4, 1) := by decide +kernel
theorem dX7_init_138 : decode cX7_init 138 = .ok (.iastore, 1) := by decide +kernel
theorem dX7_init_139 : decode cX7_init 139 = .ok (.aload_n 0, 1) := by decide +kernel
theorem dX7_init_140 : decode cX7_init 140 = .ok (.getfield 7, 3) := by decide +kernel
theorem dX7_init_143 : decode cX7_init 143 = .ok (.bipush 21, 2) := by decide +kernel
theorem dX7_init_145 : decode cX7_init 145 = .ok (.iconst 1, 1) := by decide +kernel
theorem dX7_init_146 : decode cX7_init 146 = .ok (.iastore, 1) := by decide +kernel
theorem dX7_init_147 : decode cX7_init 147 = .ok (.aload_n 0, 1) := by decide +kernel
theorem dX7_init_148 : decode cX7_init 148 = .ok (.getfield 7, 3) := by decide +kernel
theorem dX7_init_151 : decode cX7_init 151 = .ok (.bipush 22, 2) := by decide +kernel
theorem dX7_init_153 : decode cX7_init 153 = .ok (.iconst 2, 1) := by decide +kernel
theorem dX7_init_154 : decode cX7_init 154 = .ok (.iastore, 1) := by decide +kernel
theorem dX7_init_155 : decode cX7_init 155 = .ok (.return_, 1) := by decide +kernel
theorem dX7_in_0 : decode cX7_in 0 = .ok (.iload_n 0, 1) := by decide +kernel
theorem dX7_in_1 : decode cX7_in 1 = .ok (.iload_n 1, 1) := by decide +kernel
theorem dX7_in_2 : decode cX7_in 2 = .ok (.if_icmp .lt 12, 3) := by decide +kernel
theorem dX7_in_5 : decode cX7_in 5 = .ok (.iload_n 0, 1) := by decide +kernel
theorem dX7_in_6 : decode cX7_in 6 = .ok (.iload_n 2, 1) := by decide +kernel
theorem dX7_in_7 : decode cX7_in 7 = .ok (.if_icmp .gt 7, 3) := by decide +kernel
theorem dX7_in_10 : decode cX7_in 10 = .ok (.iconst 1, 1) := by decide +kernel
theorem dX7_in_11 : decode cX7_in 11 = .ok (.goto 4, 3) := by decide +kernel
theorem dX7_in_14 : decode cX7_in 14 = .ok (.iconst 0, 1) := by decide +kernel
theorem dX7_in_15 : decode cX7_in 15 = .ok (.ireturn, 1) := by decide +kernel
theorem dX7_copies_0 : decode cX7_copies 0 = .ok (.iconst 0, 1) := by decide +kernel
theorem dX7_copies_1 : decode cX7_copies 1 = .ok (.istore 4, 2) := by decide +kernel
theorem dX7_copies_3 : decode cX7_copies 3 = .ok (.iload 4, 2) := by decide +kernel
theorem dX7_copies_5 : decode cX7_copies 5 = .ok (.sipush 1115, 3) := by decide +kernel
theorem dX7_copies_8 : decode cX7_copies 8 = .ok (.if_icmp .ge 21, 3) := by decide +kernel
theorem dX7_copies_11 : decode cX7_copies 11 = .ok (.aload_n 2, 1) := by decide +kernel
theorem dX7_copies_12 : decode cX7_copies 12 = .ok (.iload_n 3, 1) := by decide +kernel
theorem dX7_copies_13 : decode cX7_copies 13 = .ok (.iload 4, 2) := by decide +kernel
theorem dX7_copies_15 : decode cX7_copies 15 = .ok (.iadd, 1) := by decide +kernel
theorem dX7_copies_16 : decode cX7_copies 16 = .ok (.aload_n 0, 1) := by decide +kernel
theorem dX7_copies_17 : decode cX7_copies 17 = .ok (.iload_n 1, 1) := by decide +kernel
theorem dX7_copies_18 : decode cX7_copies 18 = .ok (.iload 4, 2) := by decide +kernel
theorem dX7_copies_20 : decode cX7_copies 20 = .ok (.iadd, 1) := by decide +kernel
theorem dX7_copies_21 : decode cX7_copies 21 = .ok (.iaload, 1) := by decide +kernel
theorem dX7_copies_22 : decode cX7_copies 22 = .ok (.iastore, 1) := by decide +kernel
theorem dX7_copies_23 : decode cX7_copies 23 = .ok (.iinc 4 1, 3) := by decide +kernel
theorem dX7_copies_26 : decode cX7_copies 26 = .ok (.goto (-23), 3) := by decide +kernel
theorem dX7_copies_29 : decode cX7_copies 29 = .ok (.return_, 1) := by decide +kernel
theorem dX7_begins_0 : decode cX7_begins 0 = .ok (.aload_n 0, 1) := by decide +kernel
theorem dX7_begins_1 : decode cX7_begins 1 = .ok (.getfield 7, 3) := by decide +kernel
theorem dX7_begins_4 : decode cX7_begins 4 = .ok (.iconst 0, 1) := by decide +kernel
theorem dX7_begins_5 : decode cX7_begins 5 = .ok (.aload_n 0, 1) := by decide +kernel
theorem dX7_begins_6 : decode cX7_begins 6 = .ok (.getfield 13, 3) := by decide +kernel
theorem dX7_begins_9 : decode cX7_begins 9 = .ok (.iconst 0, 1) := by decide +kernel
theorem dX7_begins_10 : decode cX7_begins 10 = .ok (.invokestatic 37, 3) := by decide +kernel
theorem dX7_begins_13 : decode cX7_begins 13 = .ok (.return_, 1) := by decide +kernel
theorem dX7_keeps_0 : decode cX7_keeps 0 = .ok (.iload_n 1, 1) := by decide +kernel
theorem dX7_keeps_1 : decode cX7_keeps 1 = .ok (.ldc 41, 2) := by decide +kernel
theorem dX7_keeps_3 : decode cX7_keeps 3 = .ok (.if_icmp .gt 5, 3) := by decide +kernel
theorem dX7_keeps_6 : decode cX7_keeps 6 = .ok (.iload_n 1, 1) := by decide +kernel
theorem dX7_keeps_7 : decode cX7_keeps 7 = .ok (.ireturn, 1) := by decide +kernel
theorem dX7_keeps_8 : decode cX7_keeps 8 = .ok (.aload_n 0, 1) := by decide +kernel
theorem dX7_keeps_9 : decode cX7_keeps 9 = .ok (.getfield 42, 3) := by decide +kernel
theorem dX7_keeps_12 : decode cX7_keeps 12 = .ok (.iconst 4, 1) := by decide +kernel
theorem dX7_keeps_13 : decode cX7_keeps 13 = .ok (.if_icmp .ne 44, 3) := by decide +kernel
theorem dX7_keeps_16 : decode cX7_keeps 16 = .ok (.iconst 0, 1) := by decide +kernel
theorem dX7_keeps_17 : decode cX7_keeps 17 = .ok (.istore_n 2, 1) := by decide +kernel
theorem dX7_keeps_18 : decode cX7_keeps 18 = .ok (.iload_n 2, 1) := by decide +kernel
theorem dX7_keeps_19 : decode cX7_keeps 19 = .ok (.sipush 3345, 3) := by decide +kernel
theorem dX7_keeps_22 : decode cX7_keeps 22 = .ok (.if_icmp .ge 25, 3) := by decide +kernel
theorem dX7_keeps_25 : decode cX7_keeps 25 = .ok (.aload_n 0, 1) := by decide +kernel
theorem dX7_keeps_26 : decode cX7_keeps 26 = .ok (.getfield 16, 3) := by decide +kernel
theorem dX7_keeps_29 : decode cX7_keeps 29 = .ok (.iload_n 2, 1) := by decide +kernel
theorem dX7_keeps_30 : decode cX7_keeps 30 = .ok (.aload_n 0, 1) := by decide +kernel
theorem dX7_keeps_31 : decode cX7_keeps 31 = .ok (.getfield 16, 3) := by decide +kernel
theorem dX7_keeps_34 : decode cX7_keeps 34 = .ok (.iload_n 2, 1) := by decide +kernel
theorem dX7_keeps_35 : decode cX7_keeps 35 = .ok (.sipush 1115, 3) := by decide +kernel
theorem dX7_keeps_38 : decode cX7_keeps 38 = .ok (.iadd, 1) := by decide +kernel
theorem dX7_keeps_39 : decode cX7_keeps 39 = .ok (.iaload, 1) := by decide +kernel
theorem dX7_keeps_40 : decode cX7_keeps 40 = .ok (.iastore, 1) := by decide +kernel
theorem dX7_keeps_41 : decode cX7_keeps 41 = .ok (.iinc 2 1, 3) := by decide +kernel
theorem dX7_keeps_44 : decode cX7_keeps 44 = .ok (.goto (-26), 3) := by decide +kernel
theorem dX7_keeps_47 : decode cX7_keeps 47 = .ok (.aload_n 0, 1) := by decide +kernel
theorem dX7_keeps_48 : decode cX7_keeps 48 = .ok (.dup, 1) := by decide +kernel
theorem dX7_keeps_49 : decode cX7_keeps 49 = .ok (.getfield 42, 3) := by decide +kernel
theorem dX7_keeps_52 : decode cX7_keeps 52 = .ok (.iconst 1, 1) := by decide +kernel
theorem dX7_keeps_53 : decode cX7_keeps 53 = .ok (.isub, 1) := by decide +kernel
theorem dX7_keeps_54 : decode cX7_keeps 54 = .ok (.putfield 42, 3) := by decide +kernel
theorem dX7_keeps_57 : decode cX7_keeps 57 = .ok (.aload_n 0, 1) := by decide +kernel
theorem dX7_keeps_58 : decode cX7_keeps 58 = .ok (.getfield 13, 3) := by decide +kernel
theorem dX7_keeps_61 : decode cX7_keeps 61 = .ok (.iconst 0, 1) := by decide +kernel
theorem dX7_keeps_62 : decode cX7_keeps 62 = .ok (.aload_n 0, 1) := by decide +kernel
theorem dX7_keeps_63 : decode cX7_keeps 63 = .ok (.getfield 16, 3) := by decide +kernel
theorem dX7_keeps_66 : decode cX7_keeps 66 = .ok (.sipush 1115, 3) := by decide +kernel
theorem dX7_keeps_69 : decode cX7_keeps 69 = .ok (.aload_n 0, 1) := by decide +kernel
theorem dX7_keeps_70 : decode cX7_keeps 70 = .ok (.getfield 42, 3) := by decide +kernel
theorem dX7_keeps_73 : decode cX7_keeps 73 = .ok (.imul, 1) := by decide +kernel
theorem dX7_keeps_74 : decode cX7_keeps 74 = .ok (.invokestatic 37, 3) := by decide +kernel
theorem dX7_keeps_77 : decode cX7_keeps 77 = .ok (.aload_n 0, 1) := by decide +kernel
theorem dX7_keeps_78 : decode cX7_keeps 78 = .ok (.dup, 1) := by decide +kernel
theorem dX7_keeps_79 : decode cX7_keeps 79 = .ok (.getfield 42, 3) := by decide +kernel
theorem dX7_keeps_82 : decode cX7_keeps 82 = .ok (.iconst 1, 1) := by decide +kernel
theorem dX7_keeps_83 : decode cX7_keeps 83 = .ok (.iadd, 1) := by decide +kernel
theorem dX7_keeps_84 : decode cX7_keeps 84 = .ok (.putfield 42, 3) := by decide +kernel
theorem dX7_keeps_87 : decode cX7_keeps 87 = .ok (.iload_n 1, 1) := by decide +kernel
theorem dX7_keeps_88 : decode cX7_keeps 88 = .ok (.ireturn, 1) := by decide +kernel
theorem dX7_of_0 : decode cX7_of 0 = .ok (.aload_n 0, 1) := by decide +kernel
theorem dX7_of_1 : decode cX7_of 1 = .ok (.getfield 7, 3) := by decide +kernel
theorem dX7_of_4 : decode cX7_of 4 = .ok (.bipush 55, 2) := by decide +kernel
theorem dX7_of_6 : decode cX7_of 6 = .ok (.bipush 106, 2) := by decide +kernel
theorem dX7_of_8 : decode cX7_of 8 = .ok (.iload_n 1, 1) := by decide +kernel
theorem dX7_of_9 : decode cX7_of 9 = .ok (.imul, 1) := by decide +kernel
theorem dX7_of_10 : decode cX7_of 10 = .ok (.iadd, 1) := by decide +kernel
theorem dX7_of_11 : decode cX7_of 11 = .ok (.iload_n 2, 1) := by decide +kernel
theorem dX7_of_12 : decode cX7_of 12 = .ok (.iadd, 1) := by decide +kernel
theorem dX7_of_13 : decode cX7_of 13 = .ok (.iaload, 1) := by decide +kernel
theorem dX7_of_14 : decode cX7_of 14 = .ok (.ireturn, 1) := by decide +kernel
theorem dX7_lays_0 : decode cX7_lays 0 = .ok (.aload_n 0, 1) := by decide +kernel
theorem dX7_lays_1 : decode cX7_lays 1 = .ok (.getfield 7, 3) := by decide +kernel
theorem dX7_lays_4 : decode cX7_lays 4 = .ok (.bipush 55, 2) := by decide +kernel
theorem dX7_lays_6 : decode cX7_lays 6 = .ok (.bipush 106, 2) := by decide +kernel
theorem dX7_lays_8 : decode cX7_lays 8 = .ok (.iload_n 1, 1) := by decide +kernel
theorem dX7_lays_9 : decode cX7_lays 9 = .ok (.imul, 1) := by decide +kernel
theorem dX7_lays_10 : decode cX7_lays 10 = .ok (.iadd, 1) := by decide +kernel
theorem dX7_lays_11 : decode cX7_lays 11 = .ok (.iload_n 2, 1) := by decide +kernel
theorem dX7_lays_12 : decode cX7_lays 12 = .ok (.iadd, 1) := by decide +kernel
theorem dX7_lays_13 : decode cX7_lays 13 = .ok (.iload_n 3, 1) := by decide +kernel
theorem dX7_lays_14 : decode cX7_lays 14 = .ok (.iastore, 1) := by decide +kernel
theorem dX7_lays_15 : decode cX7_lays 15 = .ok (.return_, 1) := by decide +kernel
theorem dX7_placeOf_0 : decode cX7_placeOf 0 = .ok (.ldc 41, 2) := by decide +kernel
theorem dX7_placeOf_2 : decode cX7_placeOf 2 = .ok (.istore_n 2, 1) := by decide +kernel
theorem dX7_placeOf_3 : decode cX7_placeOf 3 = .ok (.iconst 0, 1) := by decide +kernel
theorem dX7_placeOf_4 : decode cX7_placeOf 4 = .ok (.istore_n 3, 1) := by decide +kernel
theorem dX7_placeOf_5 : decode cX7_placeOf 5 = .ok (.iload_n 3, 1) := by decide +kernel
theorem dX7_placeOf_6 : decode cX7_placeOf 6 = .ok (.aload_n 0, 1) := by decide +kernel
theorem dX7_placeOf_7 : decode cX7_placeOf 7 = .ok (.getfield 7, 3) := by decide +kernel
theorem dX7_placeOf_10 : decode cX7_placeOf 10 = .ok (.iconst 0, 1) := by decide +kernel
theorem dX7_placeOf_11 : decode cX7_placeOf 11 = .ok (.iaload, 1) := by decide +kernel
theorem dX7_placeOf_12 : decode cX7_placeOf 12 = .ok (.if_icmp .ge 25, 3) := by decide +kernel
theorem dX7_placeOf_15 : decode cX7_placeOf 15 = .ok (.aload_n 0, 1) := by decide +kernel
theorem dX7_placeOf_16 : decode cX7_placeOf 16 = .ok (.iload_n 3, 1) := by decide +kernel
theorem dX7_placeOf_17 : decode cX7_placeOf 17 = .ok (.iconst 0, 1) := by decide +kernel
theorem dX7_placeOf_18 : decode cX7_placeOf 18 = .ok (.invokevirtual 46, 3) := by decide +kernel
theorem dX7_placeOf_21 : decode cX7_placeOf 21 = .ok (.iload_n 1, 1) := by decide +kernel
theorem dX7_placeOf_22 : decode cX7_placeOf 22 = .ok (.if_icmp .ne 7, 3) := by decide +kernel
theorem dX7_placeOf_25 : decode cX7_placeOf 25 = .ok (.iload_n 3, 1) := by decide +kernel
theorem dX7_placeOf_26 : decode cX7_placeOf 26 = .ok (.goto 4, 3) := by decide +kernel
theorem dX7_placeOf_29 : decode cX7_placeOf 29 = .ok (.iload_n 2, 1) := by decide +kernel
theorem dX7_placeOf_30 : decode cX7_placeOf 30 = .ok (.istore_n 2, 1) := by decide +kernel
theorem dX7_placeOf_31 : decode cX7_placeOf 31 = .ok (.iinc 3 1, 3) := by decide +kernel
theorem dX7_placeOf_34 : decode cX7_placeOf 34 = .ok (.goto (-29), 3) := by decide +kernel
theorem dX7_placeOf_37 : decode cX7_placeOf 37 = .ok (.iload_n 2, 1) := by decide +kernel
theorem dX7_placeOf_38 : decode cX7_placeOf 38 = .ok (.ireturn, 1) := by decide +kernel
theorem dX7_isUser_0 : decode cX7_isUser 0 = .ok (.iload_n 0, 1) := by decide +kernel
theorem dX7_isUser_1 : decode cX7_isUser 1 = .ok (.iconst 0, 1) := by decide +kernel
theorem dX7_isUser_2 : decode cX7_isUser 2 = .ok (.iconst 3, 1) := by decide +kernel
theorem dX7_isUser_3 : decode cX7_isUser 3 = .ok (.invokestatic 50, 3) := by decide +kernel
theorem dX7_isUser_6 : decode cX7_isUser 6 = .ok (.ireturn, 1) := by decide +kernel
theorem dX7_isField_0 : decode cX7_isField 0 = .ok (.iload_n 0, 1) := by decide +kernel
theorem dX7_isField_1 : decode cX7_isField 1 = .ok (.iconst 0, 1) := by decide +kernel
theorem dX7_isField_2 : decode cX7_isField 2 = .ok (.iconst 3, 1) := by decide +kernel
theorem dX7_isField_3 : decode cX7_isField 3 = .ok (.invokestatic 50, 3) := by decide +kernel
theorem dX7_isField_6 : decode cX7_isField 6 = .ok (.ireturn, 1) := by decide +kernel
theorem dX7_isNumber_0 : decode cX7_isNumber 0 = .ok (.iload_n 0, 1) := by decide +kernel
theorem dX7_isNumber_1 : decode cX7_isNumber 1 = .ok (.sipush (-999), 3) := by decide +kernel
theorem dX7_isNumber_4 : decode cX7_isNumber 4 = .ok (.sipush 999, 3) := by decide +kernel
theorem dX7_isNumber_7 : decode cX7_isNumber 7 = .ok (.invokestatic 50, 3) := by decide +kernel
theorem dX7_isNumber_10 : decode cX7_isNumber 10 = .ok (.ireturn, 1) := by decide +kernel
theorem dX7_isBarred_0 : decode cX7_isBarred 0 = .ok (.aload_n 0, 1) := by decide +kernel
theorem dX7_isBarred_1 : decode cX7_isBarred 1 = .ok (.iload_n 1, 1) := by decide +kernel
theorem dX7_isBarred_2 : decode cX7_isBarred 2 = .ok (.iconst 1, 1) := by decide +kernel
theorem dX7_isBarred_3 : decode cX7_isBarred 3 = .ok (.invokevirtual 46, 3) := by decide +kernel
theorem dX7_isBarred_6 : decode cX7_isBarred 6 = .ok (.ifCond .le 19, 3) := by decide +kernel
theorem dX7_isBarred_9 : decode cX7_isBarred 9 = .ok (.aload_n 0, 1) := by decide +kernel
theorem dX7_isBarred_10 : decode cX7_isBarred 10 = .ok (.iload_n 1, 1) := by decide +kernel
theorem dX7_isBarred_11 : decode cX7_isBarred 11 = .ok (.iconst 1, 1) := by decide +kernel
theorem dX7_isBarred_12 : decode cX7_isBarred 12 = .ok (.invokevirtual 46, 3) := by decide +kernel
theorem dX7_isBarred_15 : decode cX7_isBarred 15 = .ok (.iload_n 2, 1) := by decide +kernel
theorem dX7_isBarred_16 : decode cX7_isBarred 16 = .ok (.iconst 1, 1) := by decide +kernel
theorem dX7_isBarred_17 : decode cX7_isBarred 17 = .ok (.iadd, 1) := by decide +kernel
theorem dX7_isBarred_18 : decode cX7_isBarred 18 = .ok (.if_icmp .eq 7, 3) := by decide +kernel
theorem dX7_isBarred_21 : decode cX7_isBarred 21 = .ok (.iconst 1, 1) := by decide +kernel
theorem dX7_isBarred_22 : decode cX7_isBarred 22 = .ok (.goto 4, 3) := by decide +kernel
theorem dX7_isBarred_25 : decode cX7_isBarred 25 = .ok (.iconst 0, 1) := by decide +kernel
theorem dX7_isBarred_26 : decode cX7_isBarred 26 = .ok (.ireturn, 1) := by decide +kernel
theorem dX7_valuesOf_0 : decode cX7_valuesOf 0 = .ok (.aload_n 0, 1) := by decide +kernel
theorem dX7_valuesOf_1 : decode cX7_valuesOf 1 = .ok (.iload_n 1, 1) := by decide +kernel
theorem dX7_valuesOf_2 : decode cX7_valuesOf 2 = .ok (.iconst 2, 1) := by decide +kernel
theorem dX7_valuesOf_3 : decode cX7_valuesOf 3 = .ok (.iload_n 2, 1) := by decide +kernel
theorem dX7_valuesOf_4 : decode cX7_valuesOf 4 = .ok (.iadd, 1) := by decide +kernel
theorem dX7_valuesOf_5 : decode cX7_valuesOf 5 = .ok (.invokevirtual 46, 3) := by decide +kernel
theorem dX7_valuesOf_8 : decode cX7_valuesOf 8 = .ok (.ireturn, 1) := by decide +kernel
theorem dX7_subsAt_0 : decode cX7_subsAt 0 = .ok (.bipush 6, 2) := by decide +kernel
theorem dX7_subsAt_2 : decode cX7_subsAt 2 = .ok (.iconst 5, 1) := by decide +kernel
theorem dX7_subsAt_3 : decode cX7_subsAt 3 = .ok (.iload_n 0, 1) := by decide +kernel
theorem dX7_subsAt_4 : decode cX7_subsAt 4 = .ok (.imul, 1) := by decide +kernel
theorem dX7_subsAt_5 : decode cX7_subsAt 5 = .ok (.iadd, 1) := by decide +kernel
theorem dX7_subsAt_6 : decode cX7_subsAt 6 = .ok (.iload_n 1, 1) := by decide +kernel
theorem dX7_subsAt_7 : decode cX7_subsAt 7 = .ok (.iadd, 1) := by decide +kernel
theorem dX7_subsAt_8 : decode cX7_subsAt 8 = .ok (.ireturn, 1) := by decide +kernel
theorem dX7_numberAtCell_0 : decode cX7_numberAtCell 0 = .ok (.bipush 26, 2) := by decide +kernel
theorem dX7_numberAtCell_2 : decode cX7_numberAtCell 2 = .ok (.bipush 20, 2) := by decide +kernel
theorem dX7_numberAtCell_4 : decode cX7_numberAtCell 4 = .ok (.iload_n 0, 1) := by decide +kernel
theorem dX7_numberAtCell_5 : decode cX7_numberAtCell 5 = .ok (.imul, 1) := by decide +kernel
theorem dX7_numberAtCell_6 : decode cX7_numberAtCell 6 = .ok (.iadd, 1) := by decide +kernel
theorem dX7_numberAtCell_7 : decode cX7_numberAtCell 7 = .ok (.iconst 4, 1) := by decide +kernel
theorem dX7_numberAtCell_8 : decode cX7_numberAtCell 8 = .ok (.iload_n 1, 1) := by decide +kernel
theorem dX7_numberAtCell_9 : decode cX7_numberAtCell 9 = .ok (.imul, 1) := by decide +kernel
theorem dX7_numberAtCell_10 : decode cX7_numberAtCell 10 = .ok (.iadd, 1) := by decide +kernel
theorem dX7_numberAtCell_11 : decode cX7_numberAtCell 11 = .ok (.iload_n 2, 1) := by decide +kernel
theorem dX7_numberAtCell_12 : decode cX7_numberAtCell 12 = .ok (.iadd, 1) := by decide +kernel
theorem dX7_numberAtCell_13 : decode cX7_numberAtCell 13 = .ok (.ireturn, 1) := by decide +kernel
theorem dX7_subsOf_0 : decode cX7_subsOf 0 = .ok (.aload_n 0, 1) := by decide +kernel
theorem dX7_subsOf_1 : decode cX7_subsOf 1 = .ok (.iload_n 1, 1) := by decide +kernel
theorem dX7_subsOf_2 : decode cX7_subsOf 2 = .ok (.iload_n 2, 1) := by decide +kernel
theorem dX7_subsOf_3 : decode cX7_subsOf 3 = .ok (.iload_n 3, 1) := by decide +kernel
theorem dX7_subsOf_4 : decode cX7_subsOf 4 = .ok (.invokestatic 54, 3) := by decide +kernel
theorem dX7_subsOf_7 : decode cX7_subsOf 7 = .ok (.invokevirtual 46, 3) := by decide +kernel
theorem dX7_subsOf_10 : decode cX7_subsOf 10 = .ok (.ireturn, 1) := by decide +kernel
theorem dX7_numberOf_0 : decode cX7_numberOf 0 = .ok (.aload_n 0, 1) := by decide +kernel
theorem dX7_numberOf_1 : decode cX7_numberOf 1 = .ok (.iload_n 1, 1) := by decide +kernel
theorem dX7_numberOf_2 : decode cX7_numberOf 2 = .ok (.iload_n 2, 1) := by decide +kernel
theorem dX7_numberOf_3 : decode cX7_numberOf 3 = .ok (.iload_n 3, 1) := by decide +kernel
theorem dX7_numberOf_4 : decode cX7_numberOf 4 = .ok (.iload 4, 2) := by decide +kernel
theorem dX7_numberOf_6 : decode cX7_numberOf 6 = .ok (.invokestatic 57, 3) := by decide +kernel
theorem dX7_numberOf_9 : decode cX7_numberOf 9 = .ok (.invokevirtual 46, 3) := by decide +kernel
theorem dX7_numberOf_12 : decode cX7_numberOf 12 = .ok (.ireturn, 1) := by decide +kernel
theorem dX7_hasValue_0 : decode cX7_hasValue 0 = .ok (.iload_n 3, 1) := by decide +kernel
theorem dX7_hasValue_1 : decode cX7_hasValue 1 = .ok (.iconst 0, 1) := by decide +kernel
theorem dX7_hasValue_2 : decode cX7_hasValue 2 = .ok (.aload_n 0, 1) := by decide +kernel
theorem dX7_hasValue_3 : decode cX7_hasValue 3 = .ok (.iload_n 1, 1) := by decide +kernel
theorem dX7_hasValue_4 : decode cX7_hasValue 4 = .ok (.iload_n 2, 1) := by decide +kernel
theorem dX7_hasValue_5 : decode cX7_hasValue 5 = .ok (.invokevirtual 61, 3) := by decide +kernel
theorem dX7_hasValue_8 : decode cX7_hasValue 8 = .ok (.iconst 1, 1) := by decide +kernel
theorem dX7_hasValue_9 : decode cX7_hasValue 9 = .ok (.isub, 1) := by decide +kernel
theorem dX7_hasValue_10 : decode cX7_hasValue 10 = .ok (.invokestatic 50, 3) := by decide +kernel
theorem dX7_hasValue_13 : decode cX7_hasValue 13 = .ok (.ireturn, 1) := by decide +kernel
theorem dX7_hasSub_0 : decode cX7_hasSub 0 = .ok (.aload_n 0, 1) := by decide +kernel
theorem dX7_hasSub_1 : decode cX7_hasSub 1 = .ok (.iload_n 1, 1) := by decide +kernel
theorem dX7_hasSub_2 : decode cX7_hasSub 2 = .ok (.iload_n 2, 1) := by decide +kernel
theorem dX7_hasSub_3 : decode cX7_hasSub 3 = .ok (.iload_n 3, 1) := by decide +kernel
theorem dX7_hasSub_4 : decode cX7_hasSub 4 = .ok (.invokevirtual 64, 3) := by decide +kernel
theorem dX7_hasSub_7 : decode cX7_hasSub 7 = .ok (.ifCond .eq 25, 3) := by decide +kernel
theorem dX7_hasSub_10 : decode cX7_hasSub 10 = .ok (.iload 4, 2) := by decide +kernel
theorem dX7_hasSub_12 : decode cX7_hasSub 12 = .ok (.iconst 0, 1) := by decide +kernel
theorem dX7_hasSub_13 : decode cX7_hasSub 13 = .ok (.aload_n 0, 1) := by decide +kernel
theorem dX7_hasSub_14 : decode cX7_hasSub 14 = .ok (.iload_n 1, 1) := by decide +kernel
theorem dX7_hasSub_15 : decode cX7_hasSub 15 = .ok (.iload_n 2, 1) := by decide +kernel
theorem dX7_hasSub_16 : decode cX7_hasSub 16 = .ok (.iload_n 3, 1) := by decide +kernel
theorem dX7_hasSub_17 : decode cX7_hasSub 17 = .ok (.invokevirtual 67, 3) := by decide +kernel
theorem dX7_hasSub_20 : decode cX7_hasSub 20 = .ok (.iconst 1, 1) := by decide +kernel
theorem dX7_hasSub_21 : decode cX7_hasSub 21 = .ok (.isub, 1) := by decide +kernel
theorem dX7_hasSub_22 : decode cX7_hasSub 22 = .ok (.invokestatic 50, 3) := by decide +kernel
theorem dX7_hasSub_25 : decode cX7_hasSub 25 = .ok (.ifCond .eq 7, 3) := by decide +kernel
theorem dX7_hasSub_28 : decode cX7_hasSub 28 = .ok (.iconst 1, 1) := by decide +kernel
theorem dX7_hasSub_29 : decode cX7_hasSub 29 = .ok (.goto 4, 3) := by decide +kernel
theorem dX7_hasSub_32 : decode cX7_hasSub 32 = .ok (.iconst 0, 1) := by decide +kernel
theorem dX7_hasSub_33 : decode cX7_hasSub 33 = .ok (.ireturn, 1) := by decide +kernel
theorem dX7_copiesValue_0 : decode cX7_copiesValue 0 = .ok (.aload_n 0, 1) := by decide +kernel
theorem dX7_copiesValue_1 : decode cX7_copiesValue 1 = .ok (.iload_n 1, 1) := by decide +kernel
theorem dX7_copiesValue_2 : decode cX7_copiesValue 2 = .ok (.iload_n 2, 1) := by decide +kernel
theorem dX7_copiesValue_3 : decode cX7_copiesValue 3 = .ok (.iload 4, 2) := by decide +kernel
theorem dX7_copiesValue_5 : decode cX7_copiesValue 5 = .ok (.invokestatic 54, 3) := by decide +kernel
theorem dX7_copiesValue_8 : decode cX7_copiesValue 8 = .ok (.aload_n 0, 1) := by decide +kernel
theorem dX7_copiesValue_9 : decode cX7_copiesValue 9 = .ok (.iload_n 1, 1) := by decide +kernel
theorem dX7_copiesValue_10 : decode cX7_copiesValue 10 = .ok (.iload_n 2, 1) := by decide +kernel
theorem dX7_copiesValue_11 : decode cX7_copiesValue 11 = .ok (.iload_n 3, 1) := by decide +kernel
theorem dX7_copiesValue_12 : decode cX7_copiesValue 12 = .ok (.invokevirtual 67, 3) := by decide +kernel
theorem dX7_copiesValue_15 : decode cX7_copiesValue 15 = .ok (.invokevirtual 70, 3) := by decide +kernel
theorem dX7_copiesValue_18 : decode cX7_copiesValue 18 = .ok (.iconst 0, 1) := by decide +kernel
theorem dX7_copiesValue_19 : decode cX7_copiesValue 19 = .ok (.istore 5, 2) := by decide +kernel
theorem dX7_copiesValue_21 : decode cX7_copiesValue 21 = .ok (.iload 5, 2) := by decide +kernel
theorem dX7_copiesValue_23 : decode cX7_copiesValue 23 = .ok (.iconst 4, 1) := by decide +kernel
theorem dX7_copiesValue_24 : decode cX7_copiesValue 24 = .ok (.if_icmp .ge 31, 3) := by decide +kernel
theorem dX7_copiesValue_27 : decode cX7_copiesValue 27 = .ok (.aload_n 0, 1) := by decide +kernel
theorem dX7_copiesValue_28 : decode cX7_copiesValue 28 = .ok (.iload_n 1, 1) := by decide +kernel
theorem dX7_copiesValue_29 : decode cX7_copiesValue 29 = .ok (.iload_n 2, 1) := by decide +kernel
theorem dX7_copiesValue_30 : decode cX7_copiesValue 30 = .ok (.iload 4, 2) := by decide +kernel
theorem dX7_copiesValue_32 : decode cX7_copiesValue 32 = .ok (.iload 5, 2) := by decide +kernel
theorem dX7_copiesValue_34 : decode cX7_copiesValue 34 = .ok (.invokestatic 57, 3) := by decide +kernel
theorem dX7_copiesValue_37 : decode cX7_copiesValue 37 = .ok (.aload_n 0, 1) := by decide +kernel
theorem dX7_copiesValue_38 : decode cX7_copiesValue 38 = .ok (.iload_n 1, 1) := by decide +kernel
theorem dX7_copiesValue_39 : decode cX7_copiesValue 39 = .ok (.iload_n 2, 1) := by decide +kernel
theorem dX7_copiesValue_40 : decode cX7_copiesValue 40 = .ok (.iload_n 3, 1) := by decide +kernel
theorem dX7_copiesValue_41 : decode cX7_copiesValue 41 = .ok (.iload 5, 2) := by decide +kernel
theorem dX7_copiesValue_43 : decode cX7_copiesValue 43 = .ok (.invokevirtual 74, 3) := by decide +kernel
theorem dX7_copiesValue_46 : decode cX7_copiesValue 46 = .ok (.invokevirtual 70, 3) := by decide +kernel
theorem dX7_copiesValue_49 : decode cX7_copiesValue 49 = .ok (.iinc 5 1, 3) := by decide +kernel
theorem dX7_copiesValue_52 : decode cX7_copiesValue 52 = .ok (.goto (-31), 3) := by decide +kernel
theorem dX7_copiesValue_55 : decode cX7_copiesValue 55 = .ok (.return_, 1) := by decide +kernel
theorem dX7_empties_0 : decode cX7_empties 0 = .ok (.aload_n 0, 1) := by decide +kernel
theorem dX7_empties_1 : decode cX7_empties 1 = .ok (.iload_n 1, 1) := by decide +kernel
theorem dX7_empties_2 : decode cX7_empties 2 = .ok (.iload_n 2, 1) := by decide +kernel
theorem dX7_empties_3 : decode cX7_empties 3 = .ok (.iload_n 3, 1) := by decide +kernel
theorem dX7_empties_4 : decode cX7_empties 4 = .ok (.invokestatic 54, 3) := by decide +kernel
theorem dX7_empties_7 : decode cX7_empties 7 = .ok (.iconst 0, 1) := by decide +kernel
theorem dX7_empties_8 : decode cX7_empties 8 = .ok (.invokevirtual 70, 3) := by decide +kernel
theorem dX7_empties_11 : decode cX7_empties 11 = .ok (.iconst 0, 1) := by decide +kernel
theorem dX7_empties_12 : decode cX7_empties 12 = .ok (.istore 4, 2) := by decide +kernel
theorem dX7_empties_14 : decode cX7_empties 14 = .ok (.iload 4, 2) := by decide +kernel
theorem dX7_empties_16 : decode cX7_empties 16 = .ok (.iconst 4, 1) := by decide +kernel
theorem dX7_empties_17 : decode cX7_empties 17 = .ok (.if_icmp .ge 22, 3) := by decide +kernel
theorem dX7_empties_20 : decode cX7_empties 20 = .ok (.aload_n 0, 1) := by decide +kernel
theorem dX7_empties_21 : decode cX7_empties 21 = .ok (.iload_n 1, 1) := by decide +kernel
theorem dX7_empties_22 : decode cX7_empties 22 = .ok (.iload_n 2, 1) := by decide +kernel
theorem dX7_empties_23 : decode cX7_empties 23 = .ok (.iload_n 3, 1) := by decide +kernel
theorem dX7_empties_24 : decode cX7_empties 24 = .ok (.iload 4, 2) := by decide +kernel
theorem dX7_empties_26 : decode cX7_empties 26 = .ok (.invokestatic 57, 3) := by decide +kernel
theorem dX7_empties_29 : decode cX7_empties 29 = .ok (.iconst 0, 1) := by decide +kernel
theorem dX7_empties_30 : decode cX7_empties 30 = .ok (.invokevirtual 70, 3) := by decide +kernel
theorem dX7_empties_33 : decode cX7_empties 33 = .ok (.iinc 4 1, 3) := by decide +kernel
theorem dX7_empties_36 : decode cX7_empties 36 = .ok (.goto (-22), 3) := by decide +kernel
theorem dX7_empties_39 : decode cX7_empties 39 = .ok (.return_, 1) := by decide +kernel
theorem dX7_dropsValue_0 : decode cX7_dropsValue 0 = .ok (.aload_n 0, 1) := by decide +kernel
theorem dX7_dropsValue_1 : decode cX7_dropsValue 1 = .ok (.iload_n 1, 1) := by decide +kernel
theorem dX7_dropsValue_2 : decode cX7_dropsValue 2 = .ok (.iload_n 2, 1) := by decide +kernel
theorem dX7_dropsValue_3 : decode cX7_dropsValue 3 = .ok (.invokevirtual 61, 3) := by decide +kernel
theorem dX7_dropsValue_6 : decode cX7_dropsValue 6 = .ok (.istore 4, 2) := by decide +kernel
theorem dX7_dropsValue_8 : decode cX7_dropsValue 8 = .ok (.iload_n 3, 1) := by decide +kernel
theorem dX7_dropsValue_9 : decode cX7_dropsValue 9 = .ok (.istore 5, 2) := by decide +kernel
theorem dX7_dropsValue_11 : decode cX7_dropsValue 11 = .ok (.iload 5, 2) := by decide +kernel
theorem dX7_dropsValue_13 : decode cX7_dropsValue 13 = .ok (.iconst 1, 1) := by decide +kernel
theorem dX7_dropsValue_14 : decode cX7_dropsValue 14 = .ok (.iadd, 1) := by decide +kernel
theorem dX7_dropsValue_15 : decode cX7_dropsValue 15 = .ok (.iload 4, 2) := by decide +kernel
theorem dX7_dropsValue_17 : decode cX7_dropsValue 17 = .ok (.if_icmp .ge 21, 3) := by decide +kernel
theorem dX7_dropsValue_20 : decode cX7_dropsValue 20 = .ok (.aload_n 0, 1) := by decide +kernel
theorem dX7_dropsValue_21 : decode cX7_dropsValue 21 = .ok (.iload_n 1, 1) := by decide +kernel
theorem dX7_dropsValue_22 : decode cX7_dropsValue 22 = .ok (.iload_n 2, 1) := by decide +kernel
theorem dX7_dropsValue_23 : decode cX7_dropsValue 23 = .ok (.iload 5, 2) := by decide +kernel
theorem dX7_dropsValue_25 : decode cX7_dropsValue 25 = .ok (.iconst 1, 1) := by decide +kernel
theorem dX7_dropsValue_26 : decode cX7_dropsValue 26 = .ok (.iadd, 1) := by decide +kernel
theorem dX7_dropsValue_27 : decode cX7_dropsValue 27 = .ok (.iload 5, 2) := by decide +kernel
theorem dX7_dropsValue_29 : decode cX7_dropsValue 29 = .ok (.invokevirtual 78, 3) := by decide +kernel
theorem dX7_dropsValue_32 : decode cX7_dropsValue 32 = .ok (.iinc 5 1, 3) := by decide +kernel
theorem dX7_dropsValue_35 : decode cX7_dropsValue 35 = .ok (.goto (-24), 3) := by decide +kernel
theorem dX7_dropsValue_38 : decode cX7_dropsValue 38 = .ok (.aload_n 0, 1) := by decide +kernel
theorem dX7_dropsValue_39 : decode cX7_dropsValue 39 = .ok (.iload_n 1, 1) := by decide +kernel
theorem dX7_dropsValue_40 : decode cX7_dropsValue 40 = .ok (.iload_n 2, 1) := by decide +kernel
theorem dX7_dropsValue_41 : decode cX7_dropsValue 41 = .ok (.iload 4, 2) := by decide +kernel
theorem dX7_dropsValue_43 : decode cX7_dropsValue 43 = .ok (.iconst 1, 1) := by decide +kernel
theorem dX7_dropsValue_44 : decode cX7_dropsValue 44 = .ok (.isub, 1) := by decide +kernel
theorem dX7_dropsValue_45 : decode cX7_dropsValue 45 = .ok (.invokevirtual 82, 3) := by decide +kernel
theorem dX7_dropsValue_48 : decode cX7_dropsValue 48 = .ok (.aload_n 0, 1) := by decide +kernel
theorem dX7_dropsValue_49 : decode cX7_dropsValue 49 = .ok (.iload_n 1, 1) := by decide +kernel
theorem dX7_dropsValue_50 : decode cX7_dropsValue 50 = .ok (.iconst 2, 1) := by decide +kernel
theorem dX7_dropsValue_51 : decode cX7_dropsValue 51 = .ok (.iload_n 2, 1) := by decide +kernel
theorem dX7_dropsValue_52 : decode cX7_dropsValue 52 = .ok (.iadd, 1) := by decide +kernel
theorem dX7_dropsValue_53 : decode cX7_dropsValue 53 = .ok (.iload 4, 2) := by decide +kernel
theorem dX7_dropsValue_55 : decode cX7_dropsValue 55 = .ok (.iconst 1, 1) := by decide +kernel
theorem dX7_dropsValue_56 : decode cX7_dropsValue 56 = .ok (.isub, 1) := by decide +kernel
theorem dX7_dropsValue_57 : decode cX7_dropsValue 57 = .ok (.invokevirtual 70, 3) := by decide +kernel
theorem dX7_dropsValue_60 : decode cX7_dropsValue 60 = .ok (.return_, 1) := by decide +kernel
theorem dX7_lockedBy_0 : decode cX7_lockedBy 0 = .ok (.iconst 0, 1) := by decide +kernel
theorem dX7_lockedBy_1 : decode cX7_lockedBy 1 = .ok (.istore_n 2, 1) := by decide +kernel
theorem dX7_lockedBy_2 : decode cX7_lockedBy 2 = .ok (.iconst 0, 1) := by decide +kernel
theorem dX7_lockedBy_3 : decode cX7_lockedBy 3 = .ok (.istore_n 3, 1) := by decide +kernel
theorem dX7_lockedBy_4 : decode cX7_lockedBy 4 = .ok (.iload_n 3, 1) := by decide +kernel
theorem dX7_lockedBy_5 : decode cX7_lockedBy 5 = .ok (.aload_n 0, 1) := by decide +kernel
theorem dX7_lockedBy_6 : decode cX7_lockedBy 6 = .ok (.getfield 7, 3) := by decide +kernel
theorem dX7_lockedBy_9 : decode cX7_lockedBy 9 = .ok (.iconst 0, 1) := by decide +kernel
theorem dX7_lockedBy_10 : decode cX7_lockedBy 10 = .ok (.iaload, 1) := by decide +kernel
theorem dX7_lockedBy_11 : decode cX7_lockedBy 11 = .ok (.if_icmp .ge 29, 3) := by decide +kernel
theorem dX7_lockedBy_14 : decode cX7_lockedBy 14 = .ok (.iload_n 2, 1) := by decide +kernel
theorem dX7_lockedBy_15 : decode cX7_lockedBy 15 = .ok (.aload_n 0, 1) := by decide +kernel
theorem dX7_lockedBy_16 : decode cX7_lockedBy 16 = .ok (.iload_n 3, 1) := by decide +kernel
theorem dX7_lockedBy_17 : decode cX7_lockedBy 17 = .ok (.iconst 1, 1) := by decide +kernel
theorem dX7_lockedBy_18 : decode cX7_lockedBy 18 = .ok (.invokevirtual 46, 3) := by decide +kernel
theorem dX7_lockedBy_21 : decode cX7_lockedBy 21 = .ok (.iload_n 1, 1) := by decide +kernel
theorem dX7_lockedBy_22 : decode cX7_lockedBy 22 = .ok (.iconst 1, 1) := by decide +kernel
theorem dX7_lockedBy_23 : decode cX7_lockedBy 23 = .ok (.iadd, 1) := by decide +kernel
theorem dX7_lockedBy_24 : decode cX7_lockedBy 24 = .ok (.if_icmp .ne 7, 3) := by decide +kernel
theorem dX7_lockedBy_27 : decode cX7_lockedBy 27 = .ok (.iconst 1, 1) := by decide +kernel
theorem dX7_lockedBy_28 : decode cX7_lockedBy 28 = .ok (.goto 4, 3) := by decide +kernel
theorem dX7_lockedBy_31 : decode cX7_lockedBy 31 = .ok (.iconst 0, 1) := by decide +kernel
theorem dX7_lockedBy_32 : decode cX7_lockedBy 32 = .ok (.iadd, 1) := by decide +kernel
theorem dX7_lockedBy_33 : decode cX7_lockedBy 33 = .ok (.istore_n 2, 1) := by decide +kernel
theorem dX7_lockedBy_34 : decode cX7_lockedBy 34 = .ok (.iinc 3 1, 3) := by decide +kernel
theorem dX7_lockedBy_37 : decode cX7_lockedBy 37 = .ok (.goto (-33), 3) := by decide +kernel
theorem dX7_lockedBy_40 : decode cX7_lockedBy 40 = .ok (.iload_n 2, 1) := by decide +kernel
theorem dX7_lockedBy_41 : decode cX7_lockedBy 41 = .ok (.ireturn, 1) := by decide +kernel
theorem dX7_goCreate_0 : decode cX7_goCreate 0 = .ok (.iload_n 1, 1) := by decide +kernel
theorem dX7_goCreate_1 : decode cX7_goCreate 1 = .ok (.iconst 0, 1) := by decide +kernel
theorem dX7_goCreate_2 : decode cX7_goCreate 2 = .ok (.bipush 99, 2) := by decide +kernel
theorem dX7_goCreate_4 : decode cX7_goCreate 4 = .ok (.invokestatic 50, 3) := by decide +kernel
theorem dX7_goCreate_7 : decode cX7_goCreate 7 = .ok (.ifCond .ne 6, 3) := by decide +kernel
theorem dX7_goCreate_10 : decode cX7_goCreate 10 = .ok (.ldc 85, 2) := by decide +kernel
theorem dX7_goCreate_12 : decode cX7_goCreate 12 = .ok (.ireturn, 1) := by decide +kernel
theorem dX7_goCreate_13 : decode cX7_goCreate 13 = .ok (.aload_n 0, 1) := by decide +kernel
theorem dX7_goCreate_14 : decode cX7_goCreate 14 = .ok (.iload_n 1, 1) := by decide +kernel
theorem dX7_goCreate_15 : decode cX7_goCreate 15 = .ok (.invokevirtual 86, 3) := by decide +kernel
theorem dX7_goCreate_18 : decode cX7_goCreate 18 = .ok (.ifCond .lt 6, 3) := by decide +kernel
theorem dX7_goCreate_21 : decode cX7_goCreate 21 = .ok (.ldc 90, 2) := by decide +kernel
theorem dX7_goCreate_23 : decode cX7_goCreate 23 = .ok (.ireturn, 1) := by decide +kernel
theorem dX7_goCreate_24 : decode cX7_goCreate 24 = .ok (.aload_n 0, 1) := by decide +kernel
theorem dX7_goCreate_25 : decode cX7_goCreate 25 = .ok (.getfield 7, 3) := by decide +kernel
theorem dX7_goCreate_28 : decode cX7_goCreate 28 = .ok (.iconst 0, 1) := by decide +kernel
theorem dX7_goCreate_29 : decode cX7_goCreate 29 = .ok (.iaload, 1) := by decide +kernel
theorem dX7_goCreate_30 : decode cX7_goCreate 30 = .ok (.bipush 10, 2) := by decide +kernel
theorem dX7_goCreate_32 : decode cX7_goCreate 32 = .ok (.if_icmp .ne 6, 3) := by decide +kernel
theorem dX7_goCreate_35 : decode cX7_goCreate 35 = .ok (.ldc 91, 2) := by decide +kernel
theorem dX7_goCreate_37 : decode cX7_goCreate 37 = .ok (.ireturn, 1) := by decide +kernel
theorem dX7_goCreate_38 : decode cX7_goCreate 38 = .ok (.iconst 0, 1) := by decide +kernel
theorem dX7_goCreate_39 : decode cX7_goCreate 39 = .ok (.istore_n 2, 1) := by decide +kernel
theorem dX7_goCreate_40 : decode cX7_goCreate 40 = .ok (.iload_n 2, 1) := by decide +kernel
theorem dX7_goCreate_41 : decode cX7_goCreate 41 = .ok (.bipush 106, 2) := by decide +kernel
theorem dX7_goCreate_43 : decode cX7_goCreate 43 = .ok (.if_icmp .ge 21, 3) := by decide +kernel
theorem dX7_goCreate_46 : decode cX7_goCreate 46 = .ok (.aload_n 0, 1) := by decide +kernel
theorem dX7_goCreate_47 : decode cX7_goCreate 47 = .ok (.aload_n 0, 1) := by decide +kernel
theorem dX7_goCreate_48 : decode cX7_goCreate 48 = .ok (.getfield 7, 3) := by decide +kernel
theorem dX7_goCreate_51 : decode cX7_goCreate 51 = .ok (.iconst 0, 1) := by decide +kernel
theorem dX7_goCreate_52 : decode cX7_goCreate 52 = .ok (.iaload, 1) := by decide +kernel
theorem dX7_goCreate_53 : decode cX7_goCreate 53 = .ok (.iload_n 2, 1) := by decide +kernel
theorem dX7_goCreate_54 : decode cX7_goCreate 54 = .ok (.iconst 0, 1) := by decide +kernel
theorem dX7_goCreate_55 : decode cX7_goCreate 55 = .ok (.invokevirtual 70, 3) := by decide +kernel
theorem dX7_goCreate_58 : decode cX7_goCreate 58 = .ok (.iinc 2 1, 3) := by decide +kernel
theorem dX7_goCreate_61 : decode cX7_goCreate 61 = .ok (.goto (-21), 3) := by decide +kernel
theorem dX7_goCreate_64 : decode cX7_goCreate 64 = .ok (.aload_n 0, 1) := by decide +kernel
theorem dX7_goCreate_65 : decode cX7_goCreate 65 = .ok (.aload_n 0, 1) := by decide +kernel
theorem dX7_goCreate_66 : decode cX7_goCreate 66 = .ok (.getfield 7, 3) := by decide +kernel
theorem dX7_goCreate_69 : decode cX7_goCreate 69 = .ok (.iconst 0, 1) := by decide +kernel
theorem dX7_goCreate_70 : decode cX7_goCreate 70 = .ok (.iaload, 1) := by decide +kernel
theorem dX7_goCreate_71 : decode cX7_goCreate 71 = .ok (.iconst 0, 1) := by decide +kernel
theorem dX7_goCreate_72 : decode cX7_goCreate 72 = .ok (.iload_n 1, 1) := by decide +kernel
theorem dX7_goCreate_73 : decode cX7_goCreate 73 = .ok (.invokevirtual 70, 3) := by decide +kernel
theorem dX7_goCreate_76 : decode cX7_goCreate 76 = .ok (.aload_n 0, 1) := by decide +kernel
theorem dX7_goCreate_77 : decode cX7_goCreate 77 = .ok (.getfield 7, 3) := by decide +kernel
theorem dX7_goCreate_80 : decode cX7_goCreate 80 = .ok (.iconst 0, 1) := by decide +kernel
theorem dX7_goCreate_81 : decode cX7_goCreate 81 = .ok (.dup2, 1) := by decide +kernel
theorem dX7_goCreate_82 : decode cX7_goCreate 82 = .ok (.iaload, 1) := by decide +kernel
theorem dX7_goCreate_83 : decode cX7_goCreate 83 = .ok (.iconst 1, 1) := by decide +kernel
theorem dX7_goCreate_84 : decode cX7_goCreate 84 = .ok (.iadd, 1) := by decide +kernel
theorem dX7_goCreate_85 : decode cX7_goCreate 85 = .ok (.iastore, 1) := by decide +kernel
theorem dX7_goCreate_86 : decode cX7_goCreate 86 = .ok (.aload_n 0, 1) := by decide +kernel
theorem dX7_goCreate_87 : decode cX7_goCreate 87 = .ok (.getfield 7, 3) := by decide +kernel
theorem dX7_goCreate_90 : decode cX7_goCreate 90 = .ok (.iconst 0, 1) := by decide +kernel
theorem dX7_goCreate_91 : decode cX7_goCreate 91 = .ok (.iaload, 1) := by decide +kernel
theorem dX7_goCreate_92 : decode cX7_goCreate 92 = .ok (.ireturn, 1) := by decide +kernel
theorem dX7_errorOf_0 : decode cX7_errorOf 0 = .ok (.iload_n 1, 1) := by decide +kernel
theorem dX7_errorOf_1 : decode cX7_errorOf 1 = .ok (.invokestatic 92, 3) := by decide +kernel
theorem dX7_errorOf_4 : decode cX7_errorOf 4 = .ok (.ifCond .eq 11, 3) := by decide +kernel
theorem dX7_errorOf_7 : decode cX7_errorOf 7 = .ok (.aload_n 0, 1) := by decide +kernel
theorem dX7_errorOf_8 : decode cX7_errorOf 8 = .ok (.iload_n 2, 1) := by decide +kernel
theorem dX7_errorOf_9 : decode cX7_errorOf 9 = .ok (.invokevirtual 86, 3) := by decide +kernel
theorem dX7_errorOf_12 : decode cX7_errorOf 12 = .ok (.ifCond .ge 8, 3) := by decide +kernel
theorem dX7_errorOf_15 : decode cX7_errorOf 15 = .ok (.ldc 41, 2) := by decide +kernel
theorem dX7_errorOf_17 : decode cX7_errorOf 17 = .ok (.goto 4, 3) := by decide +kernel
theorem dX7_errorOf_20 : decode cX7_errorOf 20 = .ok (.iconst 0, 1) := by decide +kernel
theorem dX7_errorOf_21 : decode cX7_errorOf 21 = .ok (.ireturn, 1) := by decide +kernel
theorem dX7_goDelete_0 : decode cX7_goDelete 0 = .ok (.aload_n 0, 1) := by decide +kernel
theorem dX7_goDelete_1 : decode cX7_goDelete 1 = .ok (.iload_n 2, 1) := by decide +kernel
theorem dX7_goDelete_2 : decode cX7_goDelete 2 = .ok (.invokevirtual 86, 3) := by decide +kernel
theorem dX7_goDelete_5 : decode cX7_goDelete 5 = .ok (.istore_n 3, 1) := by decide +kernel
theorem dX7_goDelete_6 : decode cX7_goDelete 6 = .ok (.aload_n 0, 1) := by decide +kernel
theorem dX7_goDelete_7 : decode cX7_goDelete 7 = .ok (.iload_n 1, 1) := by decide +kernel
theorem dX7_goDelete_8 : decode cX7_goDelete 8 = .ok (.iload_n 2, 1) := by decide +kernel
theorem dX7_goDelete_9 : decode cX7_goDelete 9 = .ok (.invokevirtual 96, 3) := by decide +kernel
theorem dX7_goDelete_12 : decode cX7_goDelete 12 = .ok (.ifCond .lt 12, 3) := by decide +kernel
theorem dX7_goDelete_15 : decode cX7_goDelete 15 = .ok (.aload_n 0, 1) := by decide +kernel
theorem dX7_goDelete_16 : decode cX7_goDelete 16 = .ok (.iload_n 3, 1) := by decide +kernel
theorem dX7_goDelete_17 : decode cX7_goDelete 17 = .ok (.iload_n 1, 1) := by decide +kernel
theorem dX7_goDelete_18 : decode cX7_goDelete 18 = .ok (.invokevirtual 99, 3) := by decide +kernel
theorem dX7_goDelete_21 : decode cX7_goDelete 21 = .ok (.ifCond .eq 20, 3) := by decide +kernel
theorem dX7_goDelete_24 : decode cX7_goDelete 24 = .ok (.aload_n 0, 1) := by decide +kernel
theorem dX7_goDelete_25 : decode cX7_goDelete 25 = .ok (.iload_n 1, 1) := by decide +kernel
theorem dX7_goDelete_26 : decode cX7_goDelete 26 = .ok (.iload_n 2, 1) := by decide +kernel
theorem dX7_goDelete_27 : decode cX7_goDelete 27 = .ok (.invokevirtual 96, 3) := by decide +kernel
theorem dX7_goDelete_30 : decode cX7_goDelete 30 = .ok (.ifCond .ge 8, 3) := by decide +kernel
theorem dX7_goDelete_33 : decode cX7_goDelete 33 = .ok (.ldc 41, 2) := by decide +kernel
theorem dX7_goDelete_35 : decode cX7_goDelete 35 = .ok (.goto 5, 3) := by decide +kernel
theorem dX7_goDelete_38 : decode cX7_goDelete 38 = .ok (.ldc 103, 2) := by decide +kernel
theorem dX7_goDelete_40 : decode cX7_goDelete 40 = .ok (.ireturn, 1) := by decide +kernel
theorem dX7_goDelete_41 : decode cX7_goDelete 41 = .ok (.aload_n 0, 1) := by decide +kernel
theorem dX7_goDelete_42 : decode cX7_goDelete 42 = .ok (.getfield 7, 3) := by decide +kernel
theorem dX7_goDelete_45 : decode cX7_goDelete 45 = .ok (.iconst 0, 1) := by decide +kernel
theorem dX7_goDelete_46 : decode cX7_goDelete 46 = .ok (.dup2, 1) := by decide +kernel
theorem dX7_goDelete_47 : decode cX7_goDelete 47 = .ok (.iaload, 1) := by decide +kernel
theorem dX7_goDelete_48 : decode cX7_goDelete 48 = .ok (.iconst 1, 1) := by decide +kernel
theorem dX7_goDelete_49 : decode cX7_goDelete 49 = .ok (.isub, 1) := by decide +kernel
theorem dX7_goDelete_50 : decode cX7_goDelete 50 = .ok (.iastore, 1) := by decide +kernel
theorem dX7_goDelete_51 : decode cX7_goDelete 51 = .ok (.bipush 55, 2) := by decide +kernel
theorem dX7_goDelete_53 : decode cX7_goDelete 53 = .ok (.bipush 106, 2) := by decide +kernel
theorem dX7_goDelete_55 : decode cX7_goDelete 55 = .ok (.iload_n 3, 1) := by decide +kernel
theorem dX7_goDelete_56 : decode cX7_goDelete 56 = .ok (.imul, 1) := by decide +kernel
theorem dX7_goDelete_57 : decode cX7_goDelete 57 = .ok (.iadd, 1) := by decide +kernel
theorem dX7_goDelete_58 : decode cX7_goDelete 58 = .ok (.istore 4, 2) := by decide +kernel
theorem dX7_goDelete_60 : decode cX7_goDelete 60 = .ok (.iload 4, 2) := by decide +kernel
theorem dX7_goDelete_62 : decode cX7_goDelete 62 = .ok (.sipush 1115, 3) := by decide +kernel
theorem dX7_goDelete_65 : decode cX7_goDelete 65 = .ok (.if_icmp .ge 41, 3) := by decide +kernel
theorem dX7_goDelete_68 : decode cX7_goDelete 68 = .ok (.aload_n 0, 1) := by decide +kernel
theorem dX7_goDelete_69 : decode cX7_goDelete 69 = .ok (.getfield 7, 3) := by decide +kernel
theorem dX7_goDelete_72 : decode cX7_goDelete 72 = .ok (.iload 4, 2) := by decide +kernel
theorem dX7_goDelete_74 : decode cX7_goDelete 74 = .ok (.iload 4, 2) := by decide +kernel
theorem dX7_goDelete_76 : decode cX7_goDelete 76 = .ok (.bipush 106, 2) := by decide +kernel
theorem dX7_goDelete_78 : decode cX7_goDelete 78 = .ok (.iadd, 1) := by decide +kernel
theorem dX7_goDelete_79 : decode cX7_goDelete 79 = .ok (.sipush 1115, 3) := by decide +kernel
theorem dX7_goDelete_82 : decode cX7_goDelete 82 = .ok (.if_icmp .ge 16, 3) := by decide +kernel
theorem dX7_goDelete_85 : decode cX7_goDelete 85 = .ok (.aload_n 0, 1) := by decide +kernel
theorem dX7_goDelete_86 : decode cX7_goDelete 86 = .ok (.getfield 7, 3) := by decide +kernel
theorem dX7_goDelete_89 : decode cX7_goDelete 89 = .ok (.iload 4, 2) := by decide +kernel
theorem dX7_goDelete_91 : decode cX7_goDelete 91 = .ok (.bipush 106, 2) := by decide +kernel
theorem dX7_goDelete_93 : decode cX7_goDelete 93 = .ok (.iadd, 1) := by decide +kernel
theorem dX7_goDelete_94 : decode cX7_goDelete 94 = .ok (.iaload, 1) := by decide +kernel
theorem dX7_goDelete_95 : decode cX7_goDelete 95 = .ok (.goto 4, 3) := by decide +kernel
theorem dX7_goDelete_98 : decode cX7_goDelete 98 = .ok (.iconst 0, 1) := by decide +kernel
theorem dX7_goDelete_99 : decode cX7_goDelete 99 = .ok (.iastore, 1) := by decide +kernel
theorem dX7_goDelete_100 : decode cX7_goDelete 100 = .ok (.iinc 4 1, 3) := by decide +kernel
theorem dX7_goDelete_103 : decode cX7_goDelete 103 = .ok (.goto (-43), 3) := by decide +kernel
theorem dX7_goDelete_106 : decode cX7_goDelete 106 = .ok (.aload_n 0, 1) := by decide +kernel
theorem dX7_goDelete_107 : decode cX7_goDelete 107 = .ok (.getfield 7, 3) := by decide +kernel
theorem dX7_goDelete_110 : decode cX7_goDelete 110 = .ok (.iconst 0, 1) := by decide +kernel
theorem dX7_goDelete_111 : decode cX7_goDelete 111 = .ok (.iaload, 1) := by decide +kernel
theorem dX7_goDelete_112 : decode cX7_goDelete 112 = .ok (.ireturn, 1) := by decide +kernel
theorem dX7_goLock_0 : decode cX7_goLock 0 = .ok (.aload_n 0, 1) := by decide +kernel
theorem dX7_goLock_1 : decode cX7_goLock 1 = .ok (.iload_n 2, 1) := by decide +kernel
theorem dX7_goLock_2 : decode cX7_goLock 2 = .ok (.invokevirtual 86, 3) := by decide +kernel
theorem dX7_goLock_5 : decode cX7_goLock 5 = .ok (.istore_n 3, 1) := by decide +kernel
theorem dX7_goLock_6 : decode cX7_goLock 6 = .ok (.aload_n 0, 1) := by decide +kernel
theorem dX7_goLock_7 : decode cX7_goLock 7 = .ok (.iload_n 1, 1) := by decide +kernel
theorem dX7_goLock_8 : decode cX7_goLock 8 = .ok (.iload_n 2, 1) := by decide +kernel
theorem dX7_goLock_9 : decode cX7_goLock 9 = .ok (.invokevirtual 96, 3) := by decide +kernel
theorem dX7_goLock_12 : decode cX7_goLock 12 = .ok (.ifCond .lt 12, 3) := by decide +kernel
theorem dX7_goLock_15 : decode cX7_goLock 15 = .ok (.aload_n 0, 1) := by decide +kernel
theorem dX7_goLock_16 : decode cX7_goLock 16 = .ok (.iload_n 3, 1) := by decide +kernel
theorem dX7_goLock_17 : decode cX7_goLock 17 = .ok (.iload_n 1, 1) := by decide +kernel
theorem dX7_goLock_18 : decode cX7_goLock 18 = .ok (.invokevirtual 99, 3) := by decide +kernel
theorem dX7_goLock_21 : decode cX7_goLock 21 = .ok (.ifCond .eq 20, 3) := by decide +kernel
theorem dX7_goLock_24 : decode cX7_goLock 24 = .ok (.aload_n 0, 1) := by decide +kernel
theorem dX7_goLock_25 : decode cX7_goLock 25 = .ok (.iload_n 1, 1) := by decide +kernel
theorem dX7_goLock_26 : decode cX7_goLock 26 = .ok (.iload_n 2, 1) := by decide +kernel
theorem dX7_goLock_27 : decode cX7_goLock 27 = .ok (.invokevirtual 96, 3) := by decide +kernel
theorem dX7_goLock_30 : decode cX7_goLock 30 = .ok (.ifCond .ge 8, 3) := by decide +kernel
theorem dX7_goLock_33 : decode cX7_goLock 33 = .ok (.ldc 41, 2) := by decide +kernel
theorem dX7_goLock_35 : decode cX7_goLock 35 = .ok (.goto 5, 3) := by decide +kernel
theorem dX7_goLock_38 : decode cX7_goLock 38 = .ok (.ldc 103, 2) := by decide +kernel
theorem dX7_goLock_40 : decode cX7_goLock 40 = .ok (.ireturn, 1) := by decide +kernel
theorem dX7_goLock_41 : decode cX7_goLock 41 = .ok (.aload_n 0, 1) := by decide +kernel
theorem dX7_goLock_42 : decode cX7_goLock 42 = .ok (.iload_n 3, 1) := by decide +kernel
theorem dX7_goLock_43 : decode cX7_goLock 43 = .ok (.iconst 1, 1) := by decide +kernel
theorem dX7_goLock_44 : decode cX7_goLock 44 = .ok (.iload_n 1, 1) := by decide +kernel
theorem dX7_goLock_45 : decode cX7_goLock 45 = .ok (.iconst 1, 1) := by decide +kernel
theorem dX7_goLock_46 : decode cX7_goLock 46 = .ok (.iadd, 1) := by decide +kernel
theorem dX7_goLock_47 : decode cX7_goLock 47 = .ok (.invokevirtual 70, 3) := by decide +kernel
theorem dX7_goLock_50 : decode cX7_goLock 50 = .ok (.aload_n 0, 1) := by decide +kernel
theorem dX7_goLock_51 : decode cX7_goLock 51 = .ok (.iload_n 1, 1) := by decide +kernel
theorem dX7_goLock_52 : decode cX7_goLock 52 = .ok (.invokevirtual 104, 3) := by decide +kernel
theorem dX7_goLock_55 : decode cX7_goLock 55 = .ok (.ireturn, 1) := by decide +kernel
theorem dX7_goUnlock_0 : decode cX7_goUnlock 0 = .ok (.aload_n 0, 1) := by decide +kernel
theorem dX7_goUnlock_1 : decode cX7_goUnlock 1 = .ok (.iload_n 2, 1) := by decide +kernel
theorem dX7_goUnlock_2 : decode cX7_goUnlock 2 = .ok (.invokevirtual 86, 3) := by decide +kernel
theorem dX7_goUnlock_5 : decode cX7_goUnlock 5 = .ok (.istore_n 3, 1) := by decide +kernel
theorem dX7_goUnlock_6 : decode cX7_goUnlock 6 = .ok (.aload_n 0, 1) := by decide +kernel
theorem dX7_goUnlock_7 : decode cX7_goUnlock 7 = .ok (.iload_n 1, 1) := by decide +kernel
theorem dX7_goUnlock_8 : decode cX7_goUnlock 8 = .ok (.iload_n 2, 1) := by decide +kernel
theorem dX7_goUnlock_9 : decode cX7_goUnlock 9 = .ok (.invokevirtual 96, 3) := by decide +kernel
theorem dX7_goUnlock_12 : decode cX7_goUnlock 12 = .ok (.ifCond .lt 12, 3) := by decide +kernel
theorem dX7_goUnlock_15 : decode cX7_goUnlock 15 = .ok (.aload_n 0, 1) := by decide +kernel
theorem dX7_goUnlock_16 : decode cX7_goUnlock 16 = .ok (.iload_n 3, 1) := by decide +kernel
theorem dX7_goUnlock_17 : decode cX7_goUnlock 17 = .ok (.iload_n 1, 1) := by decide +kernel
theorem dX7_goUnlock_18 : decode cX7_goUnlock 18 = .ok (.invokevirtual 99, 3) := by decide +kernel
theorem dX7_goUnlock_21 : decode cX7_goUnlock 21 = .ok (.ifCond .eq 20, 3) := by decide +kernel
theorem dX7_goUnlock_24 : decode cX7_goUnlock 24 = .ok (.aload_n 0, 1) := by decide +kernel
theorem dX7_goUnlock_25 : decode cX7_goUnlock 25 = .ok (.iload_n 1, 1) := by decide +kernel
theorem dX7_goUnlock_26 : decode cX7_goUnlock 26 = .ok (.iload_n 2, 1) := by decide +kernel
theorem dX7_goUnlock_27 : decode cX7_goUnlock 27 = .ok (.invokevirtual 96, 3) := by decide +kernel
theorem dX7_goUnlock_30 : decode cX7_goUnlock 30 = .ok (.ifCond .ge 8, 3) := by decide +kernel
theorem dX7_goUnlock_33 : decode cX7_goUnlock 33 = .ok (.ldc 41, 2) := by decide +kernel
theorem dX7_goUnlock_35 : decode cX7_goUnlock 35 = .ok (.goto 5, 3) := by decide +kernel
theorem dX7_goUnlock_38 : decode cX7_goUnlock 38 = .ok (.ldc 103, 2) := by decide +kernel
theorem dX7_goUnlock_40 : decode cX7_goUnlock 40 = .ok (.ireturn, 1) := by decide +kernel
theorem dX7_goUnlock_41 : decode cX7_goUnlock 41 = .ok (.aload_n 0, 1) := by decide +kernel
theorem dX7_goUnlock_42 : decode cX7_goUnlock 42 = .ok (.iload_n 3, 1) := by decide +kernel
theorem dX7_goUnlock_43 : decode cX7_goUnlock 43 = .ok (.iconst 1, 1) := by decide +kernel
theorem dX7_goUnlock_44 : decode cX7_goUnlock 44 = .ok (.invokevirtual 46, 3) := by decide +kernel
theorem dX7_goUnlock_47 : decode cX7_goUnlock 47 = .ok (.ifCond .ne 6, 3) := by decide +kernel
theorem dX7_goUnlock_50 : decode cX7_goUnlock 50 = .ok (.ldc 90, 2) := by decide +kernel
theorem dX7_goUnlock_52 : decode cX7_goUnlock 52 = .ok (.ireturn, 1) := by decide +kernel
theorem dX7_goUnlock_53 : decode cX7_goUnlock 53 = .ok (.aload_n 0, 1) := by decide +kernel
theorem dX7_goUnlock_54 : decode cX7_goUnlock 54 = .ok (.iload_n 3, 1) := by decide +kernel
theorem dX7_goUnlock_55 : decode cX7_goUnlock 55 = .ok (.iconst 1, 1) := by decide +kernel
theorem dX7_goUnlock_56 : decode cX7_goUnlock 56 = .ok (.iconst 0, 1) := by decide +kernel
theorem dX7_goUnlock_57 : decode cX7_goUnlock 57 = .ok (.invokevirtual 70, 3) := by decide +kernel
theorem dX7_goUnlock_60 : decode cX7_goUnlock 60 = .ok (.aload_n 0, 1) := by decide +kernel
theorem dX7_goUnlock_61 : decode cX7_goUnlock 61 = .ok (.iload_n 1, 1) := by decide +kernel
theorem dX7_goUnlock_62 : decode cX7_goUnlock 62 = .ok (.invokevirtual 104, 3) := by decide +kernel
theorem dX7_goUnlock_65 : decode cX7_goUnlock 65 = .ok (.ireturn, 1) := by decide +kernel
theorem dX7_goInsert_0 : decode cX7_goInsert 0 = .ok (.aload_n 0, 1) := by decide +kernel
theorem dX7_goInsert_1 : decode cX7_goInsert 1 = .ok (.iload_n 1, 1) := by decide +kernel
theorem dX7_goInsert_2 : decode cX7_goInsert 2 = .ok (.iload_n 2, 1) := by decide +kernel
theorem dX7_goInsert_3 : decode cX7_goInsert 3 = .ok (.invokevirtual 61, 3) := by decide +kernel
theorem dX7_goInsert_6 : decode cX7_goInsert 6 = .ok (.istore 6, 2) := by decide +kernel
theorem dX7_goInsert_8 : decode cX7_goInsert 8 = .ok (.iload 4, 2) := by decide +kernel
theorem dX7_goInsert_10 : decode cX7_goInsert 10 = .ok (.ifCond .ge 88, 3) := by decide +kernel
theorem dX7_goInsert_13 : decode cX7_goInsert 13 = .ok (.iload 6, 2) := by decide +kernel
theorem dX7_goInsert_15 : decode cX7_goInsert 15 = .ok (.iconst 5, 1) := by decide +kernel
theorem dX7_goInsert_16 : decode cX7_goInsert 16 = .ok (.if_icmp .ne 6, 3) := by decide +kernel
theorem dX7_goInsert_19 : decode cX7_goInsert 19 = .ok (.ldc 91, 2) := by decide +kernel
theorem dX7_goInsert_21 : decode cX7_goInsert 21 = .ok (.ireturn, 1) := by decide +kernel
theorem dX7_goInsert_22 : decode cX7_goInsert 22 = .ok (.iload 6, 2) := by decide +kernel
theorem dX7_goInsert_24 : decode cX7_goInsert 24 = .ok (.istore 7, 2) := by decide +kernel
theorem dX7_goInsert_26 : decode cX7_goInsert 26 = .ok (.iload 7, 2) := by decide +kernel
theorem dX7_goInsert_28 : decode cX7_goInsert 28 = .ok (.iload_n 3, 1) := by decide +kernel
theorem dX7_goInsert_29 : decode cX7_goInsert 29 = .ok (.if_icmp .le 21, 3) := by decide +kernel
theorem dX7_goInsert_32 : decode cX7_goInsert 32 = .ok (.aload_n 0, 1) := by decide +kernel
theorem dX7_goInsert_33 : decode cX7_goInsert 33 = .ok (.iload_n 1, 1) := by decide +kernel
theorem dX7_goInsert_34 : decode cX7_goInsert 34 = .ok (.iload_n 2, 1) := by decide +kernel
theorem dX7_goInsert_35 : decode cX7_goInsert 35 = .ok (.iload 7, 2) := by decide +kernel
theorem dX7_goInsert_37 : decode cX7_goInsert 37 = .ok (.iconst 1, 1) := by decide +kernel
theorem dX7_goInsert_38 : decode cX7_goInsert 38 = .ok (.isub, 1) := by decide +kernel
theorem dX7_goInsert_39 : decode cX7_goInsert 39 = .ok (.iload 7, 2) := by decide +kernel
theorem dX7_goInsert_41 : decode cX7_goInsert 41 = .ok (.invokevirtual 78, 3) := by decide +kernel
theorem dX7_goInsert_44 : decode cX7_goInsert 44 = .ok (.iinc 7 (-1), 3) := by decide +kernel
theorem dX7_goInsert_47 : decode cX7_goInsert 47 = .ok (.goto (-21), 3) := by decide +kernel
theorem dX7_goInsert_50 : decode cX7_goInsert 50 = .ok (.aload_n 0, 1) := by decide +kernel
theorem dX7_goInsert_51 : decode cX7_goInsert 51 = .ok (.iload_n 1, 1) := by decide +kernel
theorem dX7_goInsert_52 : decode cX7_goInsert 52 = .ok (.iload_n 2, 1) := by decide +kernel
theorem dX7_goInsert_53 : decode cX7_goInsert 53 = .ok (.iload_n 3, 1) := by decide +kernel
theorem dX7_goInsert_54 : decode cX7_goInsert 54 = .ok (.invokevirtual 82, 3) := by decide +kernel
theorem dX7_goInsert_57 : decode cX7_goInsert 57 = .ok (.aload_n 0, 1) := by decide +kernel
theorem dX7_goInsert_58 : decode cX7_goInsert 58 = .ok (.iload_n 1, 1) := by decide +kernel
theorem dX7_goInsert_59 : decode cX7_goInsert 59 = .ok (.iload_n 2, 1) := by decide +kernel
theorem dX7_goInsert_60 : decode cX7_goInsert 60 = .ok (.iload_n 3, 1) := by decide +kernel
theorem dX7_goInsert_61 : decode cX7_goInsert 61 = .ok (.invokestatic 54, 3) := by decide +kernel
theorem dX7_goInsert_64 : decode cX7_goInsert 64 = .ok (.iconst 1, 1) := by decide +kernel
theorem dX7_goInsert_65 : decode cX7_goInsert 65 = .ok (.invokevirtual 70, 3) := by decide +kernel
theorem dX7_goInsert_68 : decode cX7_goInsert 68 = .ok (.aload_n 0, 1) := by decide +kernel
theorem dX7_goInsert_69 : decode cX7_goInsert 69 = .ok (.iload_n 1, 1) := by decide +kernel
theorem dX7_goInsert_70 : decode cX7_goInsert 70 = .ok (.iload_n 2, 1) := by decide +kernel
theorem dX7_goInsert_71 : decode cX7_goInsert 71 = .ok (.iload_n 3, 1) := by decide +kernel
theorem dX7_goInsert_72 : decode cX7_goInsert 72 = .ok (.iconst 0, 1) := by decide +kernel
theorem dX7_goInsert_73 : decode cX7_goInsert 73 = .ok (.invokestatic 57, 3) := by decide +kernel
theorem dX7_goInsert_76 : decode cX7_goInsert 76 = .ok (.iload 5, 2) := by decide +kernel
theorem dX7_goInsert_78 : decode cX7_goInsert 78 = .ok (.invokevirtual 70, 3) := by decide +kernel
theorem dX7_goInsert_81 : decode cX7_goInsert 81 = .ok (.aload_n 0, 1) := by decide +kernel
end
section
theorem dX7_goInsert_82 : decode cX7_goInsert 82 = .ok (.iload_n 1, 1) := by decide +kernel
theorem dX7_goInsert_83 : decode cX7_goInsert 83 = .ok (.iconst 2, 1) := by decide +kernel
theorem dX7_goInsert_84 : decode cX7_goInsert 84 = .ok (.iload_n 2, 1) := by decide +kernel
theorem dX7_goInsert_85 : decode cX7_goInsert 85 = .ok (.iadd, 1) := by decide +kernel
theorem dX7_goInsert_86 : decode cX7_goInsert 86 = .ok (.iload 6, 2) := by decide +kernel
theorem dX7_goInsert_88 : decode cX7_goInsert 88 = .ok (.iconst 1, 1) := by decide +kernel
theorem dX7_goInsert_89 : decode cX7_goInsert 89 = .ok (.iadd, 1) := by decide +kernel
theorem dX7_goInsert_90 : decode cX7_goInsert 90 = .ok (.invokevirtual 70, 3) := by decide +kernel
theorem dX7_goInsert_93 : decode cX7_goInsert 93 = .ok (.iload 6, 2) := by decide +kernel
theorem dX7_goInsert_95 : decode cX7_goInsert 95 = .ok (.iconst 1, 1) := by decide +kernel
theorem dX7_goInsert_96 : decode cX7_goInsert 96 = .ok (.iadd, 1) := by decide +kernel
theorem dX7_goInsert_97 : decode cX7_goInsert 97 = .ok (.ireturn, 1) := by decide +kernel
theorem dX7_goInsert_98 : decode cX7_goInsert 98 = .ok (.aload_n 0, 1) := by decide +kernel
theorem dX7_goInsert_99 : decode cX7_goInsert 99 = .ok (.iload_n 1, 1) := by decide +kernel
theorem dX7_goInsert_100 : decode cX7_goInsert 100 = .ok (.iload_n 2, 1) := by decide +kernel
theorem dX7_goInsert_101 : decode cX7_goInsert 101 = .ok (.iload_n 3, 1) := by decide +kernel
theorem dX7_goInsert_102 : decode cX7_goInsert 102 = .ok (.invokevirtual 67, 3) := by decide +kernel
theorem dX7_goInsert_105 : decode cX7_goInsert 105 = .ok (.istore 7, 2) := by decide +kernel
theorem dX7_goInsert_107 : decode cX7_goInsert 107 = .ok (.iload 7, 2) := by decide +kernel
theorem dX7_goInsert_109 : decode cX7_goInsert 109 = .ok (.iconst 4, 1) := by decide +kernel
theorem dX7_goInsert_110 : decode cX7_goInsert 110 = .ok (.if_icmp .ne 6, 3) := by decide +kernel
theorem dX7_goInsert_113 : decode cX7_goInsert 113 = .ok (.ldc 91, 2) := by decide +kernel
theorem dX7_goInsert_115 : decode cX7_goInsert 115 = .ok (.ireturn, 1) := by decide +kernel
theorem dX7_goInsert_116 : decode cX7_goInsert 116 = .ok (.iload 7, 2) := by decide +kernel
theorem dX7_goInsert_118 : decode cX7_goInsert 118 = .ok (.istore 8, 2) := by decide +kernel
theorem dX7_goInsert_120 : decode cX7_goInsert 120 = .ok (.iload 8, 2) := by decide +kernel
theorem dX7_goInsert_122 : decode cX7_goInsert 122 = .ok (.iload 4, 2) := by decide +kernel
theorem dX7_goInsert_124 : decode cX7_goInsert 124 = .ok (.if_icmp .le 32, 3) := by decide +kernel
theorem dX7_goInsert_127 : decode cX7_goInsert 127 = .ok (.aload_n 0, 1) := by decide +kernel
theorem dX7_goInsert_128 : decode cX7_goInsert 128 = .ok (.iload_n 1, 1) := by decide +kernel
theorem dX7_goInsert_129 : decode cX7_goInsert 129 = .ok (.iload_n 2, 1) := by decide +kernel
theorem dX7_goInsert_130 : decode cX7_goInsert 130 = .ok (.iload_n 3, 1) := by decide +kernel
theorem dX7_goInsert_131 : decode cX7_goInsert 131 = .ok (.iload 8, 2) := by decide +kernel
theorem dX7_goInsert_133 : decode cX7_goInsert 133 = .ok (.invokestatic 57, 3) := by decide +kernel
theorem dX7_goInsert_136 : decode cX7_goInsert 136 = .ok (.aload_n 0, 1) := by decide +kernel
theorem dX7_goInsert_137 : decode cX7_goInsert 137 = .ok (.iload_n 1, 1) := by decide +kernel
theorem dX7_goInsert_138 : decode cX7_goInsert 138 = .ok (.iload_n 2, 1) := by decide +kernel
theorem dX7_goInsert_139 : decode cX7_goInsert 139 = .ok (.iload_n 3, 1) := by decide +kernel
theorem dX7_goInsert_140 : decode cX7_goInsert 140 = .ok (.iload 8, 2) := by decide +kernel
theorem dX7_goInsert_142 : decode cX7_goInsert 142 = .ok (.iconst 1, 1) := by decide +kernel
theorem dX7_goInsert_143 : decode cX7_goInsert 143 = .ok (.isub, 1) := by decide +kernel
theorem dX7_goInsert_144 : decode cX7_goInsert 144 = .ok (.invokevirtual 74, 3) := by decide +kernel
theorem dX7_goInsert_147 : decode cX7_goInsert 147 = .ok (.invokevirtual 70, 3) := by decide +kernel
theorem dX7_goInsert_150 : decode cX7_goInsert 150 = .ok (.iinc 8 (-1), 3) := by decide +kernel
theorem dX7_goInsert_153 : decode cX7_goInsert 153 = .ok (.goto (-33), 3) := by decide +kernel
theorem dX7_goInsert_156 : decode cX7_goInsert 156 = .ok (.aload_n 0, 1) := by decide +kernel
theorem dX7_goInsert_157 : decode cX7_goInsert 157 = .ok (.iload_n 1, 1) := by decide +kernel
theorem dX7_goInsert_158 : decode cX7_goInsert 158 = .ok (.iload_n 2, 1) := by decide +kernel
theorem dX7_goInsert_159 : decode cX7_goInsert 159 = .ok (.iload_n 3, 1) := by decide +kernel
theorem dX7_goInsert_160 : decode cX7_goInsert 160 = .ok (.iload 4, 2) := by decide +kernel
theorem dX7_goInsert_162 : decode cX7_goInsert 162 = .ok (.invokestatic 57, 3) := by decide +kernel
theorem dX7_goInsert_165 : decode cX7_goInsert 165 = .ok (.iload 5, 2) := by decide +kernel
theorem dX7_goInsert_167 : decode cX7_goInsert 167 = .ok (.invokevirtual 70, 3) := by decide +kernel
theorem dX7_goInsert_170 : decode cX7_goInsert 170 = .ok (.aload_n 0, 1) := by decide +kernel
theorem dX7_goInsert_171 : decode cX7_goInsert 171 = .ok (.iload_n 1, 1) := by decide +kernel
theorem dX7_goInsert_172 : decode cX7_goInsert 172 = .ok (.iload_n 2, 1) := by decide +kernel
theorem dX7_goInsert_173 : decode cX7_goInsert 173 = .ok (.iload_n 3, 1) := by decide +kernel
theorem dX7_goInsert_174 : decode cX7_goInsert 174 = .ok (.invokestatic 54, 3) := by decide +kernel
theorem dX7_goInsert_177 : decode cX7_goInsert 177 = .ok (.iload 7, 2) := by decide +kernel
theorem dX7_goInsert_179 : decode cX7_goInsert 179 = .ok (.iconst 1, 1) := by decide +kernel
theorem dX7_goInsert_180 : decode cX7_goInsert 180 = .ok (.iadd, 1) := by decide +kernel
theorem dX7_goInsert_181 : decode cX7_goInsert 181 = .ok (.invokevirtual 70, 3) := by decide +kernel
theorem dX7_goInsert_184 : decode cX7_goInsert 184 = .ok (.iload 7, 2) := by decide +kernel
theorem dX7_goInsert_186 : decode cX7_goInsert 186 = .ok (.iconst 1, 1) := by decide +kernel
theorem dX7_goInsert_187 : decode cX7_goInsert 187 = .ok (.iadd, 1) := by decide +kernel
theorem dX7_goInsert_188 : decode cX7_goInsert 188 = .ok (.ireturn, 1) := by decide +kernel
theorem dX7_goRemove_0 : decode cX7_goRemove 0 = .ok (.aload_n 0, 1) := by decide +kernel
theorem dX7_goRemove_1 : decode cX7_goRemove 1 = .ok (.iload_n 1, 1) := by decide +kernel
theorem dX7_goRemove_2 : decode cX7_goRemove 2 = .ok (.iload_n 2, 1) := by decide +kernel
theorem dX7_goRemove_3 : decode cX7_goRemove 3 = .ok (.iload_n 3, 1) := by decide +kernel
theorem dX7_goRemove_4 : decode cX7_goRemove 4 = .ok (.invokevirtual 67, 3) := by decide +kernel
theorem dX7_goRemove_7 : decode cX7_goRemove 7 = .ok (.istore 5, 2) := by decide +kernel
theorem dX7_goRemove_9 : decode cX7_goRemove 9 = .ok (.iload 4, 2) := by decide +kernel
theorem dX7_goRemove_11 : decode cX7_goRemove 11 = .ok (.ifCond .lt 9, 3) := by decide +kernel
theorem dX7_goRemove_14 : decode cX7_goRemove 14 = .ok (.iload 5, 2) := by decide +kernel
theorem dX7_goRemove_16 : decode cX7_goRemove 16 = .ok (.iconst 1, 1) := by decide +kernel
theorem dX7_goRemove_17 : decode cX7_goRemove 17 = .ok (.if_icmp .ne 17, 3) := by decide +kernel
theorem dX7_goRemove_20 : decode cX7_goRemove 20 = .ok (.aload_n 0, 1) := by decide +kernel
theorem dX7_goRemove_21 : decode cX7_goRemove 21 = .ok (.iload_n 1, 1) := by decide +kernel
theorem dX7_goRemove_22 : decode cX7_goRemove 22 = .ok (.iload_n 2, 1) := by decide +kernel
theorem dX7_goRemove_23 : decode cX7_goRemove 23 = .ok (.iload_n 3, 1) := by decide +kernel
theorem dX7_goRemove_24 : decode cX7_goRemove 24 = .ok (.invokevirtual 107, 3) := by decide +kernel
theorem dX7_goRemove_27 : decode cX7_goRemove 27 = .ok (.aload_n 0, 1) := by decide +kernel
theorem dX7_goRemove_28 : decode cX7_goRemove 28 = .ok (.iload_n 1, 1) := by decide +kernel
theorem dX7_goRemove_29 : decode cX7_goRemove 29 = .ok (.iload_n 2, 1) := by decide +kernel
theorem dX7_goRemove_30 : decode cX7_goRemove 30 = .ok (.invokevirtual 61, 3) := by decide +kernel
theorem dX7_goRemove_33 : decode cX7_goRemove 33 = .ok (.ireturn, 1) := by decide +kernel
theorem dX7_goRemove_34 : decode cX7_goRemove 34 = .ok (.iload 4, 2) := by decide +kernel
theorem dX7_goRemove_36 : decode cX7_goRemove 36 = .ok (.istore 6, 2) := by decide +kernel
theorem dX7_goRemove_38 : decode cX7_goRemove 38 = .ok (.iload 6, 2) := by decide +kernel
theorem dX7_goRemove_40 : decode cX7_goRemove 40 = .ok (.iconst 4, 1) := by decide +kernel
theorem dX7_goRemove_41 : decode cX7_goRemove 41 = .ok (.if_icmp .ge 45, 3) := by decide +kernel
theorem dX7_goRemove_44 : decode cX7_goRemove 44 = .ok (.aload_n 0, 1) := by decide +kernel
theorem dX7_goRemove_45 : decode cX7_goRemove 45 = .ok (.iload_n 1, 1) := by decide +kernel
theorem dX7_goRemove_46 : decode cX7_goRemove 46 = .ok (.iload_n 2, 1) := by decide +kernel
theorem dX7_goRemove_47 : decode cX7_goRemove 47 = .ok (.iload_n 3, 1) := by decide +kernel
theorem dX7_goRemove_48 : decode cX7_goRemove 48 = .ok (.iload 6, 2) := by decide +kernel
theorem dX7_goRemove_50 : decode cX7_goRemove 50 = .ok (.invokestatic 57, 3) := by decide +kernel
theorem dX7_goRemove_53 : decode cX7_goRemove 53 = .ok (.iload 6, 2) := by decide +kernel
theorem dX7_goRemove_55 : decode cX7_goRemove 55 = .ok (.iconst 1, 1) := by decide +kernel
theorem dX7_goRemove_56 : decode cX7_goRemove 56 = .ok (.iadd, 1) := by decide +kernel
theorem dX7_goRemove_57 : decode cX7_goRemove 57 = .ok (.iload 5, 2) := by decide +kernel
theorem dX7_goRemove_59 : decode cX7_goRemove 59 = .ok (.if_icmp .ge 17, 3) := by decide +kernel
theorem dX7_goRemove_62 : decode cX7_goRemove 62 = .ok (.aload_n 0, 1) := by decide +kernel
theorem dX7_goRemove_63 : decode cX7_goRemove 63 = .ok (.iload_n 1, 1) := by decide +kernel
theorem dX7_goRemove_64 : decode cX7_goRemove 64 = .ok (.iload_n 2, 1) := by decide +kernel
theorem dX7_goRemove_65 : decode cX7_goRemove 65 = .ok (.iload_n 3, 1) := by decide +kernel
theorem dX7_goRemove_66 : decode cX7_goRemove 66 = .ok (.iload 6, 2) := by decide +kernel
theorem dX7_goRemove_68 : decode cX7_goRemove 68 = .ok (.iconst 1, 1) := by decide +kernel
theorem dX7_goRemove_69 : decode cX7_goRemove 69 = .ok (.iadd, 1) := by decide +kernel
theorem dX7_goRemove_70 : decode cX7_goRemove 70 = .ok (.invokevirtual 74, 3) := by decide +kernel
theorem dX7_goRemove_73 : decode cX7_goRemove 73 = .ok (.goto 4, 3) := by decide +kernel
theorem dX7_goRemove_76 : decode cX7_goRemove 76 = .ok (.iconst 0, 1) := by decide +kernel
theorem dX7_goRemove_77 : decode cX7_goRemove 77 = .ok (.invokevirtual 70, 3) := by decide +kernel
theorem dX7_goRemove_80 : decode cX7_goRemove 80 = .ok (.iinc 6 1, 3) := by decide +kernel
theorem dX7_goRemove_83 : decode cX7_goRemove 83 = .ok (.goto (-45), 3) := by decide +kernel
theorem dX7_goRemove_86 : decode cX7_goRemove 86 = .ok (.aload_n 0, 1) := by decide +kernel
theorem dX7_goRemove_87 : decode cX7_goRemove 87 = .ok (.iload_n 1, 1) := by decide +kernel
theorem dX7_goRemove_88 : decode cX7_goRemove 88 = .ok (.iload_n 2, 1) := by decide +kernel
theorem dX7_goRemove_89 : decode cX7_goRemove 89 = .ok (.iload_n 3, 1) := by decide +kernel
theorem dX7_goRemove_90 : decode cX7_goRemove 90 = .ok (.invokestatic 54, 3) := by decide +kernel
theorem dX7_goRemove_93 : decode cX7_goRemove 93 = .ok (.iload 5, 2) := by decide +kernel
theorem dX7_goRemove_95 : decode cX7_goRemove 95 = .ok (.iconst 1, 1) := by decide +kernel
theorem dX7_goRemove_96 : decode cX7_goRemove 96 = .ok (.isub, 1) := by decide +kernel
theorem dX7_goRemove_97 : decode cX7_goRemove 97 = .ok (.invokevirtual 70, 3) := by decide +kernel
theorem dX7_goRemove_100 : decode cX7_goRemove 100 = .ok (.aload_n 0, 1) := by decide +kernel
theorem dX7_goRemove_101 : decode cX7_goRemove 101 = .ok (.iload_n 1, 1) := by decide +kernel
theorem dX7_goRemove_102 : decode cX7_goRemove 102 = .ok (.iload_n 2, 1) := by decide +kernel
theorem dX7_goRemove_103 : decode cX7_goRemove 103 = .ok (.invokevirtual 61, 3) := by decide +kernel
theorem dX7_goRemove_106 : decode cX7_goRemove 106 = .ok (.ireturn, 1) := by decide +kernel
theorem dX7_inLine_0 : decode cX7_inLine 0 = .ok (.iconst 0, 1) := by decide +kernel
theorem dX7_inLine_1 : decode cX7_inLine 1 = .ok (.istore_n 3, 1) := by decide +kernel
theorem dX7_inLine_2 : decode cX7_inLine 2 = .ok (.iconst 0, 1) := by decide +kernel
theorem dX7_inLine_3 : decode cX7_inLine 3 = .ok (.istore 4, 2) := by decide +kernel
theorem dX7_inLine_5 : decode cX7_inLine 5 = .ok (.iload 4, 2) := by decide +kernel
theorem dX7_inLine_7 : decode cX7_inLine 7 = .ok (.iconst 4, 1) := by decide +kernel
theorem dX7_inLine_8 : decode cX7_inLine 8 = .ok (.if_icmp .ge 41, 3) := by decide +kernel
theorem dX7_inLine_11 : decode cX7_inLine 11 = .ok (.iload_n 3, 1) := by decide +kernel
theorem dX7_inLine_12 : decode cX7_inLine 12 = .ok (.aload_n 0, 1) := by decide +kernel
theorem dX7_inLine_13 : decode cX7_inLine 13 = .ok (.getfield 7, 3) := by decide +kernel
theorem dX7_inLine_16 : decode cX7_inLine 16 = .ok (.iconst 1, 1) := by decide +kernel
theorem dX7_inLine_17 : decode cX7_inLine 17 = .ok (.iload 4, 2) := by decide +kernel
theorem dX7_inLine_19 : decode cX7_inLine 19 = .ok (.iadd, 1) := by decide +kernel
theorem dX7_inLine_20 : decode cX7_inLine 20 = .ok (.iaload, 1) := by decide +kernel
theorem dX7_inLine_21 : decode cX7_inLine 21 = .ok (.iconst 1, 1) := by decide +kernel
theorem dX7_inLine_22 : decode cX7_inLine 22 = .ok (.if_icmp .ne 18, 3) := by decide +kernel
theorem dX7_inLine_25 : decode cX7_inLine 25 = .ok (.aload_n 0, 1) := by decide +kernel
theorem dX7_inLine_26 : decode cX7_inLine 26 = .ok (.iload_n 1, 1) := by decide +kernel
theorem dX7_inLine_27 : decode cX7_inLine 27 = .ok (.iload 4, 2) := by decide +kernel
theorem dX7_inLine_29 : decode cX7_inLine 29 = .ok (.iload_n 2, 1) := by decide +kernel
theorem dX7_inLine_30 : decode cX7_inLine 30 = .ok (.invokevirtual 64, 3) := by decide +kernel
theorem dX7_inLine_33 : decode cX7_inLine 33 = .ok (.ifCond .eq 7, 3) := by decide +kernel
theorem dX7_inLine_36 : decode cX7_inLine 36 = .ok (.iconst 1, 1) := by decide +kernel
theorem dX7_inLine_37 : decode cX7_inLine 37 = .ok (.goto 4, 3) := by decide +kernel
theorem dX7_inLine_40 : decode cX7_inLine 40 = .ok (.iconst 0, 1) := by decide +kernel
theorem dX7_inLine_41 : decode cX7_inLine 41 = .ok (.iadd, 1) := by decide +kernel
theorem dX7_inLine_42 : decode cX7_inLine 42 = .ok (.istore_n 3, 1) := by decide +kernel
theorem dX7_inLine_43 : decode cX7_inLine 43 = .ok (.iinc 4 1, 3) := by decide +kernel
theorem dX7_inLine_46 : decode cX7_inLine 46 = .ok (.goto (-41), 3) := by decide +kernel
theorem dX7_inLine_49 : decode cX7_inLine 49 = .ok (.iload_n 3, 1) := by decide +kernel
theorem dX7_inLine_50 : decode cX7_inLine 50 = .ok (.ireturn, 1) := by decide +kernel
theorem dX7_create_0 : decode cX7_create 0 = .ok (.aload_n 0, 1) := by decide +kernel
theorem dX7_create_1 : decode cX7_create 1 = .ok (.invokevirtual 110, 3) := by decide +kernel
theorem dX7_create_4 : decode cX7_create 4 = .ok (.aload_n 0, 1) := by decide +kernel
theorem dX7_create_5 : decode cX7_create 5 = .ok (.aload_n 0, 1) := by decide +kernel
theorem dX7_create_6 : decode cX7_create 6 = .ok (.iload_n 1, 1) := by decide +kernel
theorem dX7_create_7 : decode cX7_create 7 = .ok (.invokevirtual 113, 3) := by decide +kernel
theorem dX7_create_10 : decode cX7_create 10 = .ok (.invokevirtual 116, 3) := by decide +kernel
theorem dX7_create_13 : decode cX7_create 13 = .ok (.ireturn, 1) := by decide +kernel
theorem dX7_delete_0 : decode cX7_delete 0 = .ok (.aload_n 0, 1) := by decide +kernel
theorem dX7_delete_1 : decode cX7_delete 1 = .ok (.invokevirtual 110, 3) := by decide +kernel
theorem dX7_delete_4 : decode cX7_delete 4 = .ok (.aload_n 0, 1) := by decide +kernel
theorem dX7_delete_5 : decode cX7_delete 5 = .ok (.aload_n 0, 1) := by decide +kernel
theorem dX7_delete_6 : decode cX7_delete 6 = .ok (.iload_n 1, 1) := by decide +kernel
theorem dX7_delete_7 : decode cX7_delete 7 = .ok (.iload_n 2, 1) := by decide +kernel
theorem dX7_delete_8 : decode cX7_delete 8 = .ok (.invokevirtual 119, 3) := by decide +kernel
theorem dX7_delete_11 : decode cX7_delete 11 = .ok (.invokevirtual 116, 3) := by decide +kernel
theorem dX7_delete_14 : decode cX7_delete 14 = .ok (.ireturn, 1) := by decide +kernel
theorem dX7_lock_0 : decode cX7_lock 0 = .ok (.aload_n 0, 1) := by decide +kernel
theorem dX7_lock_1 : decode cX7_lock 1 = .ok (.invokevirtual 110, 3) := by decide +kernel
theorem dX7_lock_4 : decode cX7_lock 4 = .ok (.aload_n 0, 1) := by decide +kernel
theorem dX7_lock_5 : decode cX7_lock 5 = .ok (.aload_n 0, 1) := by decide +kernel
theorem dX7_lock_6 : decode cX7_lock 6 = .ok (.iload_n 1, 1) := by decide +kernel
theorem dX7_lock_7 : decode cX7_lock 7 = .ok (.iload_n 2, 1) := by decide +kernel
theorem dX7_lock_8 : decode cX7_lock 8 = .ok (.invokevirtual 122, 3) := by decide +kernel
theorem dX7_lock_11 : decode cX7_lock 11 = .ok (.invokevirtual 116, 3) := by decide +kernel
theorem dX7_lock_14 : decode cX7_lock 14 = .ok (.ireturn, 1) := by decide +kernel
theorem dX7_unlock_0 : decode cX7_unlock 0 = .ok (.aload_n 0, 1) := by decide +kernel
theorem dX7_unlock_1 : decode cX7_unlock 1 = .ok (.invokevirtual 110, 3) := by decide +kernel
theorem dX7_unlock_4 : decode cX7_unlock 4 = .ok (.aload_n 0, 1) := by decide +kernel
theorem dX7_unlock_5 : decode cX7_unlock 5 = .ok (.aload_n 0, 1) := by decide +kernel
theorem dX7_unlock_6 : decode cX7_unlock 6 = .ok (.iload_n 1, 1) := by decide +kernel
theorem dX7_unlock_7 : decode cX7_unlock 7 = .ok (.iload_n 2, 1) := by decide +kernel
theorem dX7_unlock_8 : decode cX7_unlock 8 = .ok (.invokevirtual 125, 3) := by decide +kernel
theorem dX7_unlock_11 : decode cX7_unlock 11 = .ok (.invokevirtual 116, 3) := by decide +kernel
theorem dX7_unlock_14 : decode cX7_unlock 14 = .ok (.ireturn, 1) := by decide +kernel
theorem dX7_insert_0 : decode cX7_insert 0 = .ok (.aload_n 0, 1) := by decide +kernel
theorem dX7_insert_1 : decode cX7_insert 1 = .ok (.iload_n 2, 1) := by decide +kernel
theorem dX7_insert_2 : decode cX7_insert 2 = .ok (.invokevirtual 86, 3) := by decide +kernel
theorem dX7_insert_5 : decode cX7_insert 5 = .ok (.istore 7, 2) := by decide +kernel
theorem dX7_insert_7 : decode cX7_insert 7 = .ok (.aload_n 0, 1) := by decide +kernel
theorem dX7_insert_8 : decode cX7_insert 8 = .ok (.iload_n 1, 1) := by decide +kernel
theorem dX7_insert_9 : decode cX7_insert 9 = .ok (.iload_n 2, 1) := by decide +kernel
theorem dX7_insert_10 : decode cX7_insert 10 = .ok (.invokevirtual 96, 3) := by decide +kernel
theorem dX7_insert_13 : decode cX7_insert 13 = .ok (.ifCond .lt 10, 3) := by decide +kernel
theorem dX7_insert_16 : decode cX7_insert 16 = .ok (.iload_n 3, 1) := by decide +kernel
theorem dX7_insert_17 : decode cX7_insert 17 = .ok (.invokestatic 128, 3) := by decide +kernel
theorem dX7_insert_20 : decode cX7_insert 20 = .ok (.ifCond .ne 6, 3) := by decide +kernel
theorem dX7_insert_23 : decode cX7_insert 23 = .ok (.ldc 41, 2) := by decide +kernel
theorem dX7_insert_25 : decode cX7_insert 25 = .ok (.ireturn, 1) := by decide +kernel
theorem dX7_insert_26 : decode cX7_insert 26 = .ok (.iload 5, 2) := by decide +kernel
theorem dX7_insert_28 : decode cX7_insert 28 = .ok (.iconst (-1), 1) := by decide +kernel
theorem dX7_insert_29 : decode cX7_insert 29 = .ok (.if_icmp .ne 19, 3) := by decide +kernel
theorem dX7_insert_32 : decode cX7_insert 32 = .ok (.iload 4, 2) := by decide +kernel
theorem dX7_insert_34 : decode cX7_insert 34 = .ok (.iconst 0, 1) := by decide +kernel
theorem dX7_insert_35 : decode cX7_insert 35 = .ok (.aload_n 0, 1) := by decide +kernel
theorem dX7_insert_36 : decode cX7_insert 36 = .ok (.iload 7, 2) := by decide +kernel
theorem dX7_insert_38 : decode cX7_insert 38 = .ok (.iload_n 3, 1) := by decide +kernel
theorem dX7_insert_39 : decode cX7_insert 39 = .ok (.invokevirtual 61, 3) := by decide +kernel
theorem dX7_insert_42 : decode cX7_insert 42 = .ok (.invokestatic 50, 3) := by decide +kernel
theorem dX7_insert_45 : decode cX7_insert 45 = .ok (.goto 38, 3) := by decide +kernel
theorem dX7_insert_48 : decode cX7_insert 48 = .ok (.aload_n 0, 1) := by decide +kernel
theorem dX7_insert_49 : decode cX7_insert 49 = .ok (.iload 7, 2) := by decide +kernel
theorem dX7_insert_51 : decode cX7_insert 51 = .ok (.iload_n 3, 1) := by decide +kernel
theorem dX7_insert_52 : decode cX7_insert 52 = .ok (.iload 4, 2) := by decide +kernel
theorem dX7_insert_54 : decode cX7_insert 54 = .ok (.invokevirtual 64, 3) := by decide +kernel
theorem dX7_insert_57 : decode cX7_insert 57 = .ok (.ifCond .eq 25, 3) := by decide +kernel
theorem dX7_insert_60 : decode cX7_insert 60 = .ok (.iload 5, 2) := by decide +kernel
theorem dX7_insert_62 : decode cX7_insert 62 = .ok (.iconst 0, 1) := by decide +kernel
theorem dX7_insert_63 : decode cX7_insert 63 = .ok (.aload_n 0, 1) := by decide +kernel
theorem dX7_insert_64 : decode cX7_insert 64 = .ok (.iload 7, 2) := by decide +kernel
theorem dX7_insert_66 : decode cX7_insert 66 = .ok (.iload_n 3, 1) := by decide +kernel
theorem dX7_insert_67 : decode cX7_insert 67 = .ok (.iload 4, 2) := by decide +kernel
theorem dX7_insert_69 : decode cX7_insert 69 = .ok (.invokevirtual 67, 3) := by decide +kernel
theorem dX7_insert_72 : decode cX7_insert 72 = .ok (.invokestatic 50, 3) := by decide +kernel
theorem dX7_insert_75 : decode cX7_insert 75 = .ok (.ifCond .eq 7, 3) := by decide +kernel
theorem dX7_insert_78 : decode cX7_insert 78 = .ok (.iconst 1, 1) := by decide +kernel
theorem dX7_insert_79 : decode cX7_insert 79 = .ok (.goto 4, 3) := by decide +kernel
theorem dX7_insert_82 : decode cX7_insert 82 = .ok (.iconst 0, 1) := by decide +kernel
theorem dX7_insert_83 : decode cX7_insert 83 = .ok (.istore 8, 2) := by decide +kernel
theorem dX7_insert_85 : decode cX7_insert 85 = .ok (.iload 8, 2) := by decide +kernel
theorem dX7_insert_87 : decode cX7_insert 87 = .ok (.ifCond .ne 6, 3) := by decide +kernel
theorem dX7_insert_90 : decode cX7_insert 90 = .ok (.ldc 41, 2) := by decide +kernel
theorem dX7_insert_92 : decode cX7_insert 92 = .ok (.ireturn, 1) := by decide +kernel
theorem dX7_insert_93 : decode cX7_insert 93 = .ok (.iload 6, 2) := by decide +kernel
theorem dX7_insert_95 : decode cX7_insert 95 = .ok (.invokestatic 131, 3) := by decide +kernel
theorem dX7_insert_98 : decode cX7_insert 98 = .ok (.ifCond .ne 6, 3) := by decide +kernel
theorem dX7_insert_101 : decode cX7_insert 101 = .ok (.ldc 85, 2) := by decide +kernel
theorem dX7_insert_103 : decode cX7_insert 103 = .ok (.ireturn, 1) := by decide +kernel
theorem dX7_insert_104 : decode cX7_insert 104 = .ok (.aload_n 0, 1) := by decide +kernel
theorem dX7_insert_105 : decode cX7_insert 105 = .ok (.iload 7, 2) := by decide +kernel
theorem dX7_insert_107 : decode cX7_insert 107 = .ok (.iload_n 1, 1) := by decide +kernel
theorem dX7_insert_108 : decode cX7_insert 108 = .ok (.invokevirtual 99, 3) := by decide +kernel
theorem dX7_insert_111 : decode cX7_insert 111 = .ok (.ifCond .eq 6, 3) := by decide +kernel
theorem dX7_insert_114 : decode cX7_insert 114 = .ok (.ldc 103, 2) := by decide +kernel
theorem dX7_insert_116 : decode cX7_insert 116 = .ok (.ireturn, 1) := by decide +kernel
theorem dX7_insert_117 : decode cX7_insert 117 = .ok (.aload_n 0, 1) := by decide +kernel
theorem dX7_insert_118 : decode cX7_insert 118 = .ok (.invokevirtual 110, 3) := by decide +kernel
theorem dX7_insert_121 : decode cX7_insert 121 = .ok (.aload_n 0, 1) := by decide +kernel
theorem dX7_insert_122 : decode cX7_insert 122 = .ok (.aload_n 0, 1) := by decide +kernel
theorem dX7_insert_123 : decode cX7_insert 123 = .ok (.iload 7, 2) := by decide +kernel
theorem dX7_insert_125 : decode cX7_insert 125 = .ok (.iload_n 3, 1) := by decide +kernel
theorem dX7_insert_126 : decode cX7_insert 126 = .ok (.iload 4, 2) := by decide +kernel
theorem dX7_insert_128 : decode cX7_insert 128 = .ok (.iload 5, 2) := by decide +kernel
theorem dX7_insert_130 : decode cX7_insert 130 = .ok (.iload 6, 2) := by decide +kernel
theorem dX7_insert_132 : decode cX7_insert 132 = .ok (.invokevirtual 134, 3) := by decide +kernel
theorem dX7_insert_135 : decode cX7_insert 135 = .ok (.invokevirtual 116, 3) := by decide +kernel
theorem dX7_insert_138 : decode cX7_insert 138 = .ok (.ireturn, 1) := by decide +kernel
theorem dX7_change_0 : decode cX7_change 0 = .ok (.aload_n 0, 1) := by decide +kernel
theorem dX7_change_1 : decode cX7_change 1 = .ok (.iload_n 2, 1) := by decide +kernel
theorem dX7_change_2 : decode cX7_change 2 = .ok (.invokevirtual 86, 3) := by decide +kernel
theorem dX7_change_5 : decode cX7_change 5 = .ok (.istore 7, 2) := by decide +kernel
theorem dX7_change_7 : decode cX7_change 7 = .ok (.aload_n 0, 1) := by decide +kernel
theorem dX7_change_8 : decode cX7_change 8 = .ok (.iload_n 1, 1) := by decide +kernel
theorem dX7_change_9 : decode cX7_change 9 = .ok (.iload_n 2, 1) := by decide +kernel
theorem dX7_change_10 : decode cX7_change 10 = .ok (.invokevirtual 96, 3) := by decide +kernel
theorem dX7_change_13 : decode cX7_change 13 = .ok (.ifCond .lt 24, 3) := by decide +kernel
theorem dX7_change_16 : decode cX7_change 16 = .ok (.iload_n 3, 1) := by decide +kernel
theorem dX7_change_17 : decode cX7_change 17 = .ok (.invokestatic 128, 3) := by decide +kernel
theorem dX7_change_20 : decode cX7_change 20 = .ok (.ifCond .eq 17, 3) := by decide +kernel
theorem dX7_change_23 : decode cX7_change 23 = .ok (.aload_n 0, 1) := by decide +kernel
theorem dX7_change_24 : decode cX7_change 24 = .ok (.iload 7, 2) := by decide +kernel
theorem dX7_change_26 : decode cX7_change 26 = .ok (.iload_n 3, 1) := by decide +kernel
theorem dX7_change_27 : decode cX7_change 27 = .ok (.iload 4, 2) := by decide +kernel
theorem dX7_change_29 : decode cX7_change 29 = .ok (.iload 5, 2) := by decide +kernel
theorem dX7_change_31 : decode cX7_change 31 = .ok (.invokevirtual 138, 3) := by decide +kernel
theorem dX7_change_34 : decode cX7_change 34 = .ok (.ifCond .ne 6, 3) := by decide +kernel
theorem dX7_change_37 : decode cX7_change 37 = .ok (.ldc 41, 2) := by decide +kernel
theorem dX7_change_39 : decode cX7_change 39 = .ok (.ireturn, 1) := by decide +kernel
theorem dX7_change_40 : decode cX7_change 40 = .ok (.iload 6, 2) := by decide +kernel
theorem dX7_change_42 : decode cX7_change 42 = .ok (.invokestatic 131, 3) := by decide +kernel
theorem dX7_change_45 : decode cX7_change 45 = .ok (.ifCond .ne 6, 3) := by decide +kernel
theorem dX7_change_48 : decode cX7_change 48 = .ok (.ldc 85, 2) := by decide +kernel
theorem dX7_change_50 : decode cX7_change 50 = .ok (.ireturn, 1) := by decide +kernel
theorem dX7_change_51 : decode cX7_change 51 = .ok (.aload_n 0, 1) := by decide +kernel
theorem dX7_change_52 : decode cX7_change 52 = .ok (.iload 7, 2) := by decide +kernel
theorem dX7_change_54 : decode cX7_change 54 = .ok (.iload_n 1, 1) := by decide +kernel
theorem dX7_change_55 : decode cX7_change 55 = .ok (.invokevirtual 99, 3) := by decide +kernel
theorem dX7_change_58 : decode cX7_change 58 = .ok (.ifCond .eq 6, 3) := by decide +kernel
theorem dX7_change_61 : decode cX7_change 61 = .ok (.ldc 103, 2) := by decide +kernel
theorem dX7_change_63 : decode cX7_change 63 = .ok (.ireturn, 1) := by decide +kernel
theorem dX7_change_64 : decode cX7_change 64 = .ok (.aload_n 0, 1) := by decide +kernel
theorem dX7_change_65 : decode cX7_change 65 = .ok (.invokevirtual 110, 3) := by decide +kernel
theorem dX7_change_68 : decode cX7_change 68 = .ok (.aload_n 0, 1) := by decide +kernel
theorem dX7_change_69 : decode cX7_change 69 = .ok (.iload 7, 2) := by decide +kernel
theorem dX7_change_71 : decode cX7_change 71 = .ok (.iload_n 3, 1) := by decide +kernel
theorem dX7_change_72 : decode cX7_change 72 = .ok (.iload 4, 2) := by decide +kernel
theorem dX7_change_74 : decode cX7_change 74 = .ok (.iload 5, 2) := by decide +kernel
theorem dX7_change_76 : decode cX7_change 76 = .ok (.invokevirtual 74, 3) := by decide +kernel
theorem dX7_change_79 : decode cX7_change 79 = .ok (.istore 8, 2) := by decide +kernel
theorem dX7_change_81 : decode cX7_change 81 = .ok (.aload_n 0, 1) := by decide +kernel
theorem dX7_change_82 : decode cX7_change 82 = .ok (.iload 7, 2) := by decide +kernel
theorem dX7_change_84 : decode cX7_change 84 = .ok (.iload_n 3, 1) := by decide +kernel
theorem dX7_change_85 : decode cX7_change 85 = .ok (.iload 4, 2) := by decide +kernel
theorem dX7_change_87 : decode cX7_change 87 = .ok (.iload 5, 2) := by decide +kernel
theorem dX7_change_89 : decode cX7_change 89 = .ok (.invokestatic 57, 3) := by decide +kernel
theorem dX7_change_92 : decode cX7_change 92 = .ok (.iload 6, 2) := by decide +kernel
theorem dX7_change_94 : decode cX7_change 94 = .ok (.invokevirtual 70, 3) := by decide +kernel
theorem dX7_change_97 : decode cX7_change 97 = .ok (.aload_n 0, 1) := by decide +kernel
theorem dX7_change_98 : decode cX7_change 98 = .ok (.iload 8, 2) := by decide +kernel
theorem dX7_change_100 : decode cX7_change 100 = .ok (.invokevirtual 116, 3) := by decide +kernel
theorem dX7_change_103 : decode cX7_change 103 = .ok (.ireturn, 1) := by decide +kernel
theorem dX7_remove_0 : decode cX7_remove 0 = .ok (.aload_n 0, 1) := by decide +kernel
theorem dX7_remove_1 : decode cX7_remove 1 = .ok (.iload_n 2, 1) := by decide +kernel
theorem dX7_remove_2 : decode cX7_remove 2 = .ok (.invokevirtual 86, 3) := by decide +kernel
theorem dX7_remove_5 : decode cX7_remove 5 = .ok (.istore 6, 2) := by decide +kernel
theorem dX7_remove_7 : decode cX7_remove 7 = .ok (.aload_n 0, 1) := by decide +kernel
theorem dX7_remove_8 : decode cX7_remove 8 = .ok (.iload_n 1, 1) := by decide +kernel
theorem dX7_remove_9 : decode cX7_remove 9 = .ok (.iload_n 2, 1) := by decide +kernel
theorem dX7_remove_10 : decode cX7_remove 10 = .ok (.invokevirtual 96, 3) := by decide +kernel
theorem dX7_remove_13 : decode cX7_remove 13 = .ok (.ifCond .lt 42, 3) := by decide +kernel
theorem dX7_remove_16 : decode cX7_remove 16 = .ok (.iload_n 3, 1) := by decide +kernel
theorem dX7_remove_17 : decode cX7_remove 17 = .ok (.invokestatic 128, 3) := by decide +kernel
theorem dX7_remove_20 : decode cX7_remove 20 = .ok (.ifCond .eq 35, 3) := by decide +kernel
theorem dX7_remove_23 : decode cX7_remove 23 = .ok (.aload_n 0, 1) := by decide +kernel
theorem dX7_remove_24 : decode cX7_remove 24 = .ok (.iload 6, 2) := by decide +kernel
theorem dX7_remove_26 : decode cX7_remove 26 = .ok (.iload_n 3, 1) := by decide +kernel
theorem dX7_remove_27 : decode cX7_remove 27 = .ok (.iload 4, 2) := by decide +kernel
theorem dX7_remove_29 : decode cX7_remove 29 = .ok (.invokevirtual 64, 3) := by decide +kernel
theorem dX7_remove_32 : decode cX7_remove 32 = .ok (.ifCond .eq 23, 3) := by decide +kernel
theorem dX7_remove_35 : decode cX7_remove 35 = .ok (.iload 5, 2) := by decide +kernel
theorem dX7_remove_37 : decode cX7_remove 37 = .ok (.iconst (-1), 1) := by decide +kernel
theorem dX7_remove_38 : decode cX7_remove 38 = .ok (.if_icmp .eq 20, 3) := by decide +kernel
theorem dX7_remove_41 : decode cX7_remove 41 = .ok (.aload_n 0, 1) := by decide +kernel
theorem dX7_remove_42 : decode cX7_remove 42 = .ok (.iload 6, 2) := by decide +kernel
theorem dX7_remove_44 : decode cX7_remove 44 = .ok (.iload_n 3, 1) := by decide +kernel
theorem dX7_remove_45 : decode cX7_remove 45 = .ok (.iload 4, 2) := by decide +kernel
theorem dX7_remove_47 : decode cX7_remove 47 = .ok (.iload 5, 2) := by decide +kernel
theorem dX7_remove_49 : decode cX7_remove 49 = .ok (.invokevirtual 138, 3) := by decide +kernel
theorem dX7_remove_52 : decode cX7_remove 52 = .ok (.ifCond .ne 6, 3) := by decide +kernel
theorem dX7_remove_55 : decode cX7_remove 55 = .ok (.ldc 41, 2) := by decide +kernel
theorem dX7_remove_57 : decode cX7_remove 57 = .ok (.ireturn, 1) := by decide +kernel
theorem dX7_remove_58 : decode cX7_remove 58 = .ok (.aload_n 0, 1) := by decide +kernel
theorem dX7_remove_59 : decode cX7_remove 59 = .ok (.iload 6, 2) := by decide +kernel
theorem dX7_remove_61 : decode cX7_remove 61 = .ok (.iload_n 1, 1) := by decide +kernel
theorem dX7_remove_62 : decode cX7_remove 62 = .ok (.invokevirtual 99, 3) := by decide +kernel
theorem dX7_remove_65 : decode cX7_remove 65 = .ok (.ifCond .eq 6, 3) := by decide +kernel
theorem dX7_remove_68 : decode cX7_remove 68 = .ok (.ldc 103, 2) := by decide +kernel
theorem dX7_remove_70 : decode cX7_remove 70 = .ok (.ireturn, 1) := by decide +kernel
theorem dX7_remove_71 : decode cX7_remove 71 = .ok (.aload_n 0, 1) := by decide +kernel
theorem dX7_remove_72 : decode cX7_remove 72 = .ok (.invokevirtual 110, 3) := by decide +kernel
theorem dX7_remove_75 : decode cX7_remove 75 = .ok (.aload_n 0, 1) := by decide +kernel
theorem dX7_remove_76 : decode cX7_remove 76 = .ok (.aload_n 0, 1) := by decide +kernel
theorem dX7_remove_77 : decode cX7_remove 77 = .ok (.iload 6, 2) := by decide +kernel
theorem dX7_remove_79 : decode cX7_remove 79 = .ok (.iload_n 3, 1) := by decide +kernel
theorem dX7_remove_80 : decode cX7_remove 80 = .ok (.iload 4, 2) := by decide +kernel
theorem dX7_remove_82 : decode cX7_remove 82 = .ok (.iload 5, 2) := by decide +kernel
theorem dX7_remove_84 : decode cX7_remove 84 = .ok (.invokevirtual 142, 3) := by decide +kernel
theorem dX7_remove_87 : decode cX7_remove 87 = .ok (.invokevirtual 116, 3) := by decide +kernel
theorem dX7_remove_90 : decode cX7_remove 90 = .ok (.ireturn, 1) := by decide +kernel
theorem dX7_removeLine_0 : decode cX7_removeLine 0 = .ok (.aload_n 0, 1) := by decide +kernel
theorem dX7_removeLine_1 : decode cX7_removeLine 1 = .ok (.iload_n 2, 1) := by decide +kernel
theorem dX7_removeLine_2 : decode cX7_removeLine 2 = .ok (.invokevirtual 86, 3) := by decide +kernel
theorem dX7_removeLine_5 : decode cX7_removeLine 5 = .ok (.istore 4, 2) := by decide +kernel
theorem dX7_removeLine_7 : decode cX7_removeLine 7 = .ok (.aload_n 0, 1) := by decide +kernel
theorem dX7_removeLine_8 : decode cX7_removeLine 8 = .ok (.iload_n 1, 1) := by decide +kernel
theorem dX7_removeLine_9 : decode cX7_removeLine 9 = .ok (.iload_n 2, 1) := by decide +kernel
theorem dX7_removeLine_10 : decode cX7_removeLine 10 = .ok (.invokevirtual 96, 3) := by decide +kernel
theorem dX7_removeLine_13 : decode cX7_removeLine 13 = .ok (.ifCond .lt 13, 3) := by decide +kernel
theorem dX7_removeLine_16 : decode cX7_removeLine 16 = .ok (.aload_n 0, 1) := by decide +kernel
theorem dX7_removeLine_17 : decode cX7_removeLine 17 = .ok (.iload 4, 2) := by decide +kernel
theorem dX7_removeLine_19 : decode cX7_removeLine 19 = .ok (.iload_n 3, 1) := by decide +kernel
theorem dX7_removeLine_20 : decode cX7_removeLine 20 = .ok (.invokevirtual 145, 3) := by decide +kernel
theorem dX7_removeLine_23 : decode cX7_removeLine 23 = .ok (.ifCond .ne 6, 3) := by decide +kernel
theorem dX7_removeLine_26 : decode cX7_removeLine 26 = .ok (.ldc 41, 2) := by decide +kernel
theorem dX7_removeLine_28 : decode cX7_removeLine 28 = .ok (.ireturn, 1) := by decide +kernel
theorem dX7_removeLine_29 : decode cX7_removeLine 29 = .ok (.aload_n 0, 1) := by decide +kernel
theorem dX7_removeLine_30 : decode cX7_removeLine 30 = .ok (.iload 4, 2) := by decide +kernel
theorem dX7_removeLine_32 : decode cX7_removeLine 32 = .ok (.iload_n 1, 1) := by decide +kernel
theorem dX7_removeLine_33 : decode cX7_removeLine 33 = .ok (.invokevirtual 99, 3) := by decide +kernel
theorem dX7_removeLine_36 : decode cX7_removeLine 36 = .ok (.ifCond .eq 6, 3) := by decide +kernel
theorem dX7_removeLine_39 : decode cX7_removeLine 39 = .ok (.ldc 103, 2) := by decide +kernel
theorem dX7_removeLine_41 : decode cX7_removeLine 41 = .ok (.ireturn, 1) := by decide +kernel
theorem dX7_removeLine_42 : decode cX7_removeLine 42 = .ok (.aload_n 0, 1) := by decide +kernel
theorem dX7_removeLine_43 : decode cX7_removeLine 43 = .ok (.invokevirtual 110, 3) := by decide +kernel
theorem dX7_removeLine_46 : decode cX7_removeLine 46 = .ok (.aload_n 0, 1) := by decide +kernel
theorem dX7_removeLine_47 : decode cX7_removeLine 47 = .ok (.iload 4, 2) := by decide +kernel
theorem dX7_removeLine_49 : decode cX7_removeLine 49 = .ok (.iload_n 3, 1) := by decide +kernel
theorem dX7_removeLine_50 : decode cX7_removeLine 50 = .ok (.invokevirtual 145, 3) := by decide +kernel
theorem dX7_removeLine_53 : decode cX7_removeLine 53 = .ok (.istore 5, 2) := by decide +kernel
theorem dX7_removeLine_55 : decode cX7_removeLine 55 = .ok (.iconst 0, 1) := by decide +kernel
theorem dX7_removeLine_56 : decode cX7_removeLine 56 = .ok (.istore 6, 2) := by decide +kernel
theorem dX7_removeLine_58 : decode cX7_removeLine 58 = .ok (.iload 6, 2) := by decide +kernel
theorem dX7_removeLine_60 : decode cX7_removeLine 60 = .ok (.iconst 4, 1) := by decide +kernel
theorem dX7_removeLine_61 : decode cX7_removeLine 61 = .ok (.if_icmp .ge 43, 3) := by decide +kernel
theorem dX7_removeLine_64 : decode cX7_removeLine 64 = .ok (.aload_n 0, 1) := by decide +kernel
theorem dX7_removeLine_65 : decode cX7_removeLine 65 = .ok (.getfield 7, 3) := by decide +kernel
theorem dX7_removeLine_68 : decode cX7_removeLine 68 = .ok (.iconst 1, 1) := by decide +kernel
theorem dX7_removeLine_69 : decode cX7_removeLine 69 = .ok (.iload 6, 2) := by decide +kernel
theorem dX7_removeLine_71 : decode cX7_removeLine 71 = .ok (.iadd, 1) := by decide +kernel
theorem dX7_removeLine_72 : decode cX7_removeLine 72 = .ok (.iaload, 1) := by decide +kernel
theorem dX7_removeLine_73 : decode cX7_removeLine 73 = .ok (.iconst 1, 1) := by decide +kernel
theorem dX7_removeLine_74 : decode cX7_removeLine 74 = .ok (.if_icmp .ne 24, 3) := by decide +kernel
theorem dX7_removeLine_77 : decode cX7_removeLine 77 = .ok (.aload_n 0, 1) := by decide +kernel
theorem dX7_removeLine_78 : decode cX7_removeLine 78 = .ok (.iload 4, 2) := by decide +kernel
theorem dX7_removeLine_80 : decode cX7_removeLine 80 = .ok (.iload 6, 2) := by decide +kernel
theorem dX7_removeLine_82 : decode cX7_removeLine 82 = .ok (.iload_n 3, 1) := by decide +kernel
theorem dX7_removeLine_83 : decode cX7_removeLine 83 = .ok (.invokevirtual 64, 3) := by decide +kernel
theorem dX7_removeLine_86 : decode cX7_removeLine 86 = .ok (.ifCond .eq 12, 3) := by decide +kernel
theorem dX7_removeLine_89 : decode cX7_removeLine 89 = .ok (.aload_n 0, 1) := by decide +kernel
theorem dX7_removeLine_90 : decode cX7_removeLine 90 = .ok (.iload 4, 2) := by decide +kernel
theorem dX7_removeLine_92 : decode cX7_removeLine 92 = .ok (.iload 6, 2) := by decide +kernel
theorem dX7_removeLine_94 : decode cX7_removeLine 94 = .ok (.iload_n 3, 1) := by decide +kernel
theorem dX7_removeLine_95 : decode cX7_removeLine 95 = .ok (.invokevirtual 107, 3) := by decide +kernel
theorem dX7_removeLine_98 : decode cX7_removeLine 98 = .ok (.iinc 6 1, 3) := by decide +kernel
theorem dX7_removeLine_101 : decode cX7_removeLine 101 = .ok (.goto (-43), 3) := by decide +kernel
theorem dX7_removeLine_104 : decode cX7_removeLine 104 = .ok (.aload_n 0, 1) := by decide +kernel
theorem dX7_removeLine_105 : decode cX7_removeLine 105 = .ok (.iload 5, 2) := by decide +kernel
theorem dX7_removeLine_107 : decode cX7_removeLine 107 = .ok (.invokevirtual 116, 3) := by decide +kernel
theorem dX7_removeLine_110 : decode cX7_removeLine 110 = .ok (.ireturn, 1) := by decide +kernel
theorem dX7_append_0 : decode cX7_append 0 = .ok (.iload_n 1, 1) := by decide +kernel
theorem dX7_append_1 : decode cX7_append 1 = .ok (.bipush 32, 2) := by decide +kernel
theorem dX7_append_3 : decode cX7_append 3 = .ok (.bipush 126, 2) := by decide +kernel
theorem dX7_append_5 : decode cX7_append 5 = .ok (.invokestatic 50, 3) := by decide +kernel
theorem dX7_append_8 : decode cX7_append 8 = .ok (.ifCond .ne 6, 3) := by decide +kernel
theorem dX7_append_11 : decode cX7_append 11 = .ok (.ldc 85, 2) := by decide +kernel
theorem dX7_append_13 : decode cX7_append 13 = .ok (.ireturn, 1) := by decide +kernel
theorem dX7_append_14 : decode cX7_append 14 = .ok (.aload_n 0, 1) := by decide +kernel
theorem dX7_append_15 : decode cX7_append 15 = .ok (.getfield 148, 3) := by decide +kernel
theorem dX7_append_18 : decode cX7_append 18 = .ok (.bipush 90, 2) := by decide +kernel
theorem dX7_append_20 : decode cX7_append 20 = .ok (.if_icmp .ne 6, 3) := by decide +kernel
theorem dX7_append_23 : decode cX7_append 23 = .ok (.ldc 91, 2) := by decide +kernel
theorem dX7_append_25 : decode cX7_append 25 = .ok (.ireturn, 1) := by decide +kernel
theorem dX7_append_26 : decode cX7_append 26 = .ok (.aload_n 0, 1) := by decide +kernel
theorem dX7_append_27 : decode cX7_append 27 = .ok (.getfield 19, 3) := by decide +kernel
theorem dX7_append_30 : decode cX7_append 30 = .ok (.aload_n 0, 1) := by decide +kernel
theorem dX7_append_31 : decode cX7_append 31 = .ok (.getfield 148, 3) := by decide +kernel
theorem dX7_append_34 : decode cX7_append 34 = .ok (.iload_n 1, 1) := by decide +kernel
theorem dX7_append_35 : decode cX7_append 35 = .ok (.iastore, 1) := by decide +kernel
theorem dX7_append_36 : decode cX7_append 36 = .ok (.aload_n 0, 1) := by decide +kernel
theorem dX7_append_37 : decode cX7_append 37 = .ok (.dup, 1) := by decide +kernel
theorem dX7_append_38 : decode cX7_append 38 = .ok (.getfield 148, 3) := by decide +kernel
theorem dX7_append_41 : decode cX7_append 41 = .ok (.iconst 1, 1) := by decide +kernel
theorem dX7_append_42 : decode cX7_append 42 = .ok (.iadd, 1) := by decide +kernel
theorem dX7_append_43 : decode cX7_append 43 = .ok (.putfield 148, 3) := by decide +kernel
theorem dX7_append_46 : decode cX7_append 46 = .ok (.aload_n 0, 1) := by decide +kernel
theorem dX7_append_47 : decode cX7_append 47 = .ok (.getfield 148, 3) := by decide +kernel
theorem dX7_append_50 : decode cX7_append 50 = .ok (.ireturn, 1) := by decide +kernel
theorem dX7_clearText_0 : decode cX7_clearText 0 = .ok (.aload_n 0, 1) := by decide +kernel
theorem dX7_clearText_1 : decode cX7_clearText 1 = .ok (.getfield 148, 3) := by decide +kernel
theorem dX7_clearText_4 : decode cX7_clearText 4 = .ok (.istore_n 1, 1) := by decide +kernel
theorem dX7_clearText_5 : decode cX7_clearText 5 = .ok (.aload_n 0, 1) := by decide +kernel
theorem dX7_clearText_6 : decode cX7_clearText 6 = .ok (.iconst 0, 1) := by decide +kernel
theorem dX7_clearText_7 : decode cX7_clearText 7 = .ok (.putfield 148, 3) := by decide +kernel
theorem dX7_clearText_10 : decode cX7_clearText 10 = .ok (.iload_n 1, 1) := by decide +kernel
theorem dX7_clearText_11 : decode cX7_clearText 11 = .ok (.ireturn, 1) := by decide +kernel
theorem dX7_here_0 : decode cX7_here 0 = .ok (.aload_n 0, 1) := by decide +kernel
theorem dX7_here_1 : decode cX7_here 1 = .ok (.getfield 151, 3) := by decide +kernel
theorem dX7_here_4 : decode cX7_here 4 = .ok (.aload_n 0, 1) := by decide +kernel
theorem dX7_here_5 : decode cX7_here 5 = .ok (.getfield 148, 3) := by decide +kernel
theorem dX7_here_8 : decode cX7_here 8 = .ok (.if_icmp .ge 15, 3) := by decide +kernel
theorem dX7_here_11 : decode cX7_here 11 = .ok (.aload_n 0, 1) := by decide +kernel
theorem dX7_here_12 : decode cX7_here 12 = .ok (.getfield 19, 3) := by decide +kernel
theorem dX7_here_15 : decode cX7_here 15 = .ok (.aload_n 0, 1) := by decide +kernel
theorem dX7_here_16 : decode cX7_here 16 = .ok (.getfield 151, 3) := by decide +kernel
theorem dX7_here_19 : decode cX7_here 19 = .ok (.iaload, 1) := by decide +kernel
theorem dX7_here_20 : decode cX7_here 20 = .ok (.goto 4, 3) := by decide +kernel
theorem dX7_here_23 : decode cX7_here 23 = .ok (.iconst 0, 1) := by decide +kernel
theorem dX7_here_24 : decode cX7_here 24 = .ok (.ireturn, 1) := by decide +kernel
theorem dX7_takes_0 : decode cX7_takes 0 = .ok (.aload_n 0, 1) := by decide +kernel
theorem dX7_takes_1 : decode cX7_takes 1 = .ok (.aload_n 0, 1) := by decide +kernel
theorem dX7_takes_2 : decode cX7_takes 2 = .ok (.getfield 154, 3) := by decide +kernel
theorem dX7_takes_5 : decode cX7_takes 5 = .ok (.ifCond .eq 11, 3) := by decide +kernel
theorem dX7_takes_8 : decode cX7_takes 8 = .ok (.iload_n 1, 1) := by decide +kernel
theorem dX7_takes_9 : decode cX7_takes 9 = .ok (.ifCond .eq 7, 3) := by decide +kernel
theorem dX7_takes_12 : decode cX7_takes 12 = .ok (.iconst 1, 1) := by decide +kernel
theorem dX7_takes_13 : decode cX7_takes 13 = .ok (.goto 4, 3) := by decide +kernel
theorem dX7_takes_16 : decode cX7_takes 16 = .ok (.iconst 0, 1) := by decide +kernel
theorem dX7_takes_17 : decode cX7_takes 17 = .ok (.putfield 154, 3) := by decide +kernel
theorem dX7_takes_20 : decode cX7_takes 20 = .ok (.aload_n 0, 1) := by decide +kernel
theorem dX7_takes_21 : decode cX7_takes 21 = .ok (.dup, 1) := by decide +kernel
theorem dX7_takes_22 : decode cX7_takes 22 = .ok (.getfield 151, 3) := by decide +kernel
theorem dX7_takes_25 : decode cX7_takes 25 = .ok (.aload_n 0, 1) := by decide +kernel
theorem dX7_takes_26 : decode cX7_takes 26 = .ok (.getfield 154, 3) := by decide +kernel
theorem dX7_takes_29 : decode cX7_takes 29 = .ok (.ifCond .eq 7, 3) := by decide +kernel
theorem dX7_takes_32 : decode cX7_takes 32 = .ok (.iconst 1, 1) := by decide +kernel
theorem dX7_takes_33 : decode cX7_takes 33 = .ok (.goto 4, 3) := by decide +kernel
theorem dX7_takes_36 : decode cX7_takes 36 = .ok (.iconst 0, 1) := by decide +kernel
theorem dX7_takes_37 : decode cX7_takes 37 = .ok (.iadd, 1) := by decide +kernel
theorem dX7_takes_38 : decode cX7_takes 38 = .ok (.putfield 151, 3) := by decide +kernel
theorem dX7_takes_41 : decode cX7_takes 41 = .ok (.return_, 1) := by decide +kernel
theorem dX7_takesNumber_0 : decode cX7_takesNumber 0 = .ok (.aload_n 0, 1) := by decide +kernel
theorem dX7_takesNumber_1 : decode cX7_takesNumber 1 = .ok (.invokevirtual 158, 3) := by decide +kernel
theorem dX7_takesNumber_4 : decode cX7_takesNumber 4 = .ok (.bipush 45, 2) := by decide +kernel
theorem dX7_takesNumber_6 : decode cX7_takesNumber 6 = .ok (.if_icmp .ne 7, 3) := by decide +kernel
theorem dX7_takesNumber_9 : decode cX7_takesNumber 9 = .ok (.iconst 1, 1) := by decide +kernel
theorem dX7_takesNumber_10 : decode cX7_takesNumber 10 = .ok (.goto 4, 3) := by decide +kernel
theorem dX7_takesNumber_13 : decode cX7_takesNumber 13 = .ok (.iconst 0, 1) := by decide +kernel
theorem dX7_takesNumber_14 : decode cX7_takesNumber 14 = .ok (.istore_n 1, 1) := by decide +kernel
theorem dX7_takesNumber_15 : decode cX7_takesNumber 15 = .ok (.iload_n 1, 1) := by decide +kernel
theorem dX7_takesNumber_16 : decode cX7_takesNumber 16 = .ok (.ifCond .eq 13, 3) := by decide +kernel
theorem dX7_takesNumber_19 : decode cX7_takesNumber 19 = .ok (.aload_n 0, 1) := by decide +kernel
theorem dX7_takesNumber_20 : decode cX7_takesNumber 20 = .ok (.dup, 1) := by decide +kernel
theorem dX7_takesNumber_21 : decode cX7_takesNumber 21 = .ok (.getfield 151, 3) := by decide +kernel
theorem dX7_takesNumber_24 : decode cX7_takesNumber 24 = .ok (.iconst 1, 1) := by decide +kernel
theorem dX7_takesNumber_25 : decode cX7_takesNumber 25 = .ok (.iadd, 1) := by decide +kernel
theorem dX7_takesNumber_26 : decode cX7_takesNumber 26 = .ok (.putfield 151, 3) := by decide +kernel
theorem dX7_takesNumber_29 : decode cX7_takesNumber 29 = .ok (.aload_n 0, 1) := by decide +kernel
theorem dX7_takesNumber_30 : decode cX7_takesNumber 30 = .ok (.invokevirtual 158, 3) := by decide +kernel
theorem dX7_takesNumber_33 : decode cX7_takesNumber 33 = .ok (.bipush 48, 2) := by decide +kernel
theorem dX7_takesNumber_35 : decode cX7_takesNumber 35 = .ok (.isub, 1) := by decide +kernel
theorem dX7_takesNumber_36 : decode cX7_takesNumber 36 = .ok (.istore_n 2, 1) := by decide +kernel
theorem dX7_takesNumber_37 : decode cX7_takesNumber 37 = .ok (.aload_n 0, 1) := by decide +kernel
theorem dX7_takesNumber_38 : decode cX7_takesNumber 38 = .ok (.iload_n 2, 1) := by decide +kernel
theorem dX7_takesNumber_39 : decode cX7_takesNumber 39 = .ok (.iload_n 1, 1) := by decide +kernel
theorem dX7_takesNumber_40 : decode cX7_takesNumber 40 = .ok (.ifCond .eq 7, 3) := by decide +kernel
theorem dX7_takesNumber_43 : decode cX7_takesNumber 43 = .ok (.iconst 1, 1) := by decide +kernel
theorem dX7_takesNumber_44 : decode cX7_takesNumber 44 = .ok (.goto 4, 3) := by decide +kernel
theorem dX7_takesNumber_47 : decode cX7_takesNumber 47 = .ok (.iconst 0, 1) := by decide +kernel
theorem dX7_takesNumber_48 : decode cX7_takesNumber 48 = .ok (.bipush 9, 2) := by decide +kernel
theorem dX7_takesNumber_50 : decode cX7_takesNumber 50 = .ok (.invokestatic 50, 3) := by decide +kernel
theorem dX7_takesNumber_53 : decode cX7_takesNumber 53 = .ok (.invokevirtual 162, 3) := by decide +kernel
theorem dX7_takesNumber_56 : decode cX7_takesNumber 56 = .ok (.aload_n 0, 1) := by decide +kernel
theorem dX7_takesNumber_57 : decode cX7_takesNumber 57 = .ok (.getfield 154, 3) := by decide +kernel
theorem dX7_takesNumber_60 : decode cX7_takesNumber 60 = .ok (.ifCond .eq 65, 3) := by decide +kernel
theorem dX7_takesNumber_63 : decode cX7_takesNumber 63 = .ok (.iload_n 2, 1) := by decide +kernel
theorem dX7_takesNumber_64 : decode cX7_takesNumber 64 = .ok (.ifCond .le 61, 3) := by decide +kernel
theorem dX7_takesNumber_67 : decode cX7_takesNumber 67 = .ok (.aload_n 0, 1) := by decide +kernel
theorem dX7_takesNumber_68 : decode cX7_takesNumber 68 = .ok (.invokevirtual 158, 3) := by decide +kernel
theorem dX7_takesNumber_71 : decode cX7_takesNumber 71 = .ok (.bipush 48, 2) := by decide +kernel
theorem dX7_takesNumber_73 : decode cX7_takesNumber 73 = .ok (.bipush 57, 2) := by decide +kernel
theorem dX7_takesNumber_75 : decode cX7_takesNumber 75 = .ok (.invokestatic 50, 3) := by decide +kernel
theorem dX7_takesNumber_78 : decode cX7_takesNumber 78 = .ok (.ifCond .eq 47, 3) := by decide +kernel
theorem dX7_takesNumber_81 : decode cX7_takesNumber 81 = .ok (.bipush 10, 2) := by decide +kernel
theorem dX7_takesNumber_83 : decode cX7_takesNumber 83 = .ok (.iload_n 2, 1) := by decide +kernel
theorem dX7_takesNumber_84 : decode cX7_takesNumber 84 = .ok (.imul, 1) := by decide +kernel
theorem dX7_takesNumber_85 : decode cX7_takesNumber 85 = .ok (.aload_n 0, 1) := by decide +kernel
theorem dX7_takesNumber_86 : decode cX7_takesNumber 86 = .ok (.invokevirtual 158, 3) := by decide +kernel
theorem dX7_takesNumber_89 : decode cX7_takesNumber 89 = .ok (.iadd, 1) := by decide +kernel
theorem dX7_takesNumber_90 : decode cX7_takesNumber 90 = .ok (.bipush 48, 2) := by decide +kernel
theorem dX7_takesNumber_92 : decode cX7_takesNumber 92 = .ok (.isub, 1) := by decide +kernel
theorem dX7_takesNumber_93 : decode cX7_takesNumber 93 = .ok (.sipush 999, 3) := by decide +kernel
theorem dX7_takesNumber_96 : decode cX7_takesNumber 96 = .ok (.if_icmp .gt 29, 3) := by decide +kernel
theorem dX7_takesNumber_99 : decode cX7_takesNumber 99 = .ok (.bipush 10, 2) := by decide +kernel
theorem dX7_takesNumber_101 : decode cX7_takesNumber 101 = .ok (.iload_n 2, 1) := by decide +kernel
theorem dX7_takesNumber_102 : decode cX7_takesNumber 102 = .ok (.imul, 1) := by decide +kernel
theorem dX7_takesNumber_103 : decode cX7_takesNumber 103 = .ok (.aload_n 0, 1) := by decide +kernel
theorem dX7_takesNumber_104 : decode cX7_takesNumber 104 = .ok (.invokevirtual 158, 3) := by decide +kernel
theorem dX7_takesNumber_107 : decode cX7_takesNumber 107 = .ok (.iadd, 1) := by decide +kernel
theorem dX7_takesNumber_108 : decode cX7_takesNumber 108 = .ok (.bipush 48, 2) := by decide +kernel
theorem dX7_takesNumber_110 : decode cX7_takesNumber 110 = .ok (.isub, 1) := by decide +kernel
theorem dX7_takesNumber_111 : decode cX7_takesNumber 111 = .ok (.istore_n 2, 1) := by decide +kernel
theorem dX7_takesNumber_112 : decode cX7_takesNumber 112 = .ok (.aload_n 0, 1) := by decide +kernel
theorem dX7_takesNumber_113 : decode cX7_takesNumber 113 = .ok (.dup, 1) := by decide +kernel
theorem dX7_takesNumber_114 : decode cX7_takesNumber 114 = .ok (.getfield 151, 3) := by decide +kernel
theorem dX7_takesNumber_117 : decode cX7_takesNumber 117 = .ok (.iconst 1, 1) := by decide +kernel
theorem dX7_takesNumber_118 : decode cX7_takesNumber 118 = .ok (.iadd, 1) := by decide +kernel
theorem dX7_takesNumber_119 : decode cX7_takesNumber 119 = .ok (.putfield 151, 3) := by decide +kernel
theorem dX7_takesNumber_122 : decode cX7_takesNumber 122 = .ok (.goto (-66), 3) := by decide +kernel
theorem dX7_takesNumber_125 : decode cX7_takesNumber 125 = .ok (.iload_n 1, 1) := by decide +kernel
theorem dX7_takesNumber_126 : decode cX7_takesNumber 126 = .ok (.ifCond .eq 8, 3) := by decide +kernel
theorem dX7_takesNumber_129 : decode cX7_takesNumber 129 = .ok (.iload_n 2, 1) := by decide +kernel
theorem dX7_takesNumber_130 : decode cX7_takesNumber 130 = .ok (.ineg, 1) := by decide +kernel
theorem dX7_takesNumber_131 : decode cX7_takesNumber 131 = .ok (.goto 4, 3) := by decide +kernel
theorem dX7_takesNumber_134 : decode cX7_takesNumber 134 = .ok (.iload_n 2, 1) := by decide +kernel
theorem dX7_takesNumber_135 : decode cX7_takesNumber 135 = .ok (.ireturn, 1) := by decide +kernel
theorem dX7_takesValue_0 : decode cX7_takesValue 0 = .ok (.iconst 0, 1) := by decide +kernel
theorem dX7_takesValue_1 : decode cX7_takesValue 1 = .ok (.istore 4, 2) := by decide +kernel
theorem dX7_takesValue_3 : decode cX7_takesValue 3 = .ok (.iconst 1, 1) := by decide +kernel
theorem dX7_takesValue_4 : decode cX7_takesValue 4 = .ok (.istore 5, 2) := by decide +kernel
theorem dX7_takesValue_6 : decode cX7_takesValue 6 = .ok (.iload 5, 2) := by decide +kernel
theorem dX7_takesValue_8 : decode cX7_takesValue 8 = .ok (.ifCond .eq 81, 3) := by decide +kernel
theorem dX7_takesValue_11 : decode cX7_takesValue 11 = .ok (.aload_n 0, 1) := by decide +kernel
theorem dX7_takesValue_12 : decode cX7_takesValue 12 = .ok (.invokevirtual 166, 3) := by decide +kernel
theorem dX7_takesValue_15 : decode cX7_takesValue 15 = .ok (.istore 6, 2) := by decide +kernel
theorem dX7_takesValue_17 : decode cX7_takesValue 17 = .ok (.iload_n 1, 1) := by decide +kernel
theorem dX7_takesValue_18 : decode cX7_takesValue 18 = .ok (.ifCond .lt 17, 3) := by decide +kernel
theorem dX7_takesValue_21 : decode cX7_takesValue 21 = .ok (.aload_n 0, 1) := by decide +kernel
theorem dX7_takesValue_22 : decode cX7_takesValue 22 = .ok (.iload_n 1, 1) := by decide +kernel
theorem dX7_takesValue_23 : decode cX7_takesValue 23 = .ok (.iload_n 2, 1) := by decide +kernel
theorem dX7_takesValue_24 : decode cX7_takesValue 24 = .ok (.iload_n 3, 1) := by decide +kernel
theorem dX7_takesValue_25 : decode cX7_takesValue 25 = .ok (.iload 4, 2) := by decide +kernel
theorem dX7_takesValue_27 : decode cX7_takesValue 27 = .ok (.invokestatic 57, 3) := by decide +kernel
theorem dX7_takesValue_30 : decode cX7_takesValue 30 = .ok (.iload 6, 2) := by decide +kernel
theorem dX7_takesValue_32 : decode cX7_takesValue 32 = .ok (.invokevirtual 70, 3) := by decide +kernel
theorem dX7_takesValue_35 : decode cX7_takesValue 35 = .ok (.iinc 4 1, 3) := by decide +kernel
theorem dX7_takesValue_38 : decode cX7_takesValue 38 = .ok (.aload_n 0, 1) := by decide +kernel
theorem dX7_takesValue_39 : decode cX7_takesValue 39 = .ok (.getfield 154, 3) := by decide +kernel
theorem dX7_takesValue_42 : decode cX7_takesValue 42 = .ok (.ifCond .eq 22, 3) := by decide +kernel
theorem dX7_takesValue_45 : decode cX7_takesValue 45 = .ok (.iload 4, 2) := by decide +kernel
theorem dX7_takesValue_47 : decode cX7_takesValue 47 = .ok (.iconst 4, 1) := by decide +kernel
theorem dX7_takesValue_48 : decode cX7_takesValue 48 = .ok (.if_icmp .ge 16, 3) := by decide +kernel
theorem dX7_takesValue_51 : decode cX7_takesValue 51 = .ok (.aload_n 0, 1) := by decide +kernel
theorem dX7_takesValue_52 : decode cX7_takesValue 52 = .ok (.invokevirtual 158, 3) := by decide +kernel
theorem dX7_takesValue_55 : decode cX7_takesValue 55 = .ok (.bipush 47, 2) := by decide +kernel
theorem dX7_takesValue_57 : decode cX7_takesValue 57 = .ok (.if_icmp .ne 7, 3) := by decide +kernel
theorem dX7_takesValue_60 : decode cX7_takesValue 60 = .ok (.iconst 1, 1) := by decide +kernel
theorem dX7_takesValue_61 : decode cX7_takesValue 61 = .ok (.goto 4, 3) := by decide +kernel
theorem dX7_takesValue_64 : decode cX7_takesValue 64 = .ok (.iconst 0, 1) := by decide +kernel
theorem dX7_takesValue_65 : decode cX7_takesValue 65 = .ok (.istore 5, 2) := by decide +kernel
theorem dX7_takesValue_67 : decode cX7_takesValue 67 = .ok (.aload_n 0, 1) := by decide +kernel
theorem dX7_takesValue_68 : decode cX7_takesValue 68 = .ok (.dup, 1) := by decide +kernel
theorem dX7_takesValue_69 : decode cX7_takesValue 69 = .ok (.getfield 151, 3) := by decide +kernel
theorem dX7_takesValue_72 : decode cX7_takesValue 72 = .ok (.iload 5, 2) := by decide +kernel
theorem dX7_takesValue_74 : decode cX7_takesValue 74 = .ok (.ifCond .eq 7, 3) := by decide +kernel
theorem dX7_takesValue_77 : decode cX7_takesValue 77 = .ok (.iconst 1, 1) := by decide +kernel
theorem dX7_takesValue_78 : decode cX7_takesValue 78 = .ok (.goto 4, 3) := by decide +kernel
theorem dX7_takesValue_81 : decode cX7_takesValue 81 = .ok (.iconst 0, 1) := by decide +kernel
theorem dX7_takesValue_82 : decode cX7_takesValue 82 = .ok (.iadd, 1) := by decide +kernel
theorem dX7_takesValue_83 : decode cX7_takesValue 83 = .ok (.putfield 151, 3) := by decide +kernel
theorem dX7_takesValue_86 : decode cX7_takesValue 86 = .ok (.goto (-80), 3) := by decide +kernel
theorem dX7_takesValue_89 : decode cX7_takesValue 89 = .ok (.iload_n 1, 1) := by decide +kernel
theorem dX7_takesValue_90 : decode cX7_takesValue 90 = .ok (.ifCond .lt 15, 3) := by decide +kernel
theorem dX7_takesValue_93 : decode cX7_takesValue 93 = .ok (.aload_n 0, 1) := by decide +kernel
theorem dX7_takesValue_94 : decode cX7_takesValue 94 = .ok (.iload_n 1, 1) := by decide +kernel
theorem dX7_takesValue_95 : decode cX7_takesValue 95 = .ok (.iload_n 2, 1) := by decide +kernel
theorem dX7_takesValue_96 : decode cX7_takesValue 96 = .ok (.iload_n 3, 1) := by decide +kernel
theorem dX7_takesValue_97 : decode cX7_takesValue 97 = .ok (.invokestatic 54, 3) := by decide +kernel
theorem dX7_takesValue_100 : decode cX7_takesValue 100 = .ok (.iload 4, 2) := by decide +kernel
theorem dX7_takesValue_102 : decode cX7_takesValue 102 = .ok (.invokevirtual 70, 3) := by decide +kernel
theorem dX7_takesValue_105 : decode cX7_takesValue 105 = .ok (.return_, 1) := by decide +kernel
theorem dX7_takesField_0 : decode cX7_takesField 0 = .ok (.iconst 0, 1) := by decide +kernel
theorem dX7_takesField_1 : decode cX7_takesField 1 = .ok (.istore_n 3, 1) := by decide +kernel
theorem dX7_takesField_2 : decode cX7_takesField 2 = .ok (.aload_n 0, 1) := by decide +kernel
theorem dX7_takesField_3 : decode cX7_takesField 3 = .ok (.invokevirtual 158, 3) := by decide +kernel
theorem dX7_takesField_6 : decode cX7_takesField 6 = .ok (.bipush 94, 2) := by decide +kernel
theorem dX7_takesField_8 : decode cX7_takesField 8 = .ok (.if_icmp .eq 18, 3) := by decide +kernel
theorem dX7_takesField_11 : decode cX7_takesField 11 = .ok (.aload_n 0, 1) := by decide +kernel
theorem dX7_takesField_12 : decode cX7_takesField 12 = .ok (.getfield 151, 3) := by decide +kernel
theorem dX7_takesField_15 : decode cX7_takesField 15 = .ok (.aload_n 0, 1) := by decide +kernel
theorem dX7_takesField_16 : decode cX7_takesField 16 = .ok (.getfield 148, 3) := by decide +kernel
theorem dX7_takesField_19 : decode cX7_takesField 19 = .ok (.if_icmp .ge 7, 3) := by decide +kernel
theorem dX7_takesField_22 : decode cX7_takesField 22 = .ok (.iconst 1, 1) := by decide +kernel
theorem dX7_takesField_23 : decode cX7_takesField 23 = .ok (.goto 4, 3) := by decide +kernel
theorem dX7_takesField_26 : decode cX7_takesField 26 = .ok (.iconst 0, 1) := by decide +kernel
theorem dX7_takesField_27 : decode cX7_takesField 27 = .ok (.istore 4, 2) := by decide +kernel
theorem dX7_takesField_29 : decode cX7_takesField 29 = .ok (.iload 4, 2) := by decide +kernel
theorem dX7_takesField_31 : decode cX7_takesField 31 = .ok (.ifCond .eq 63, 3) := by decide +kernel
theorem dX7_takesField_34 : decode cX7_takesField 34 = .ok (.aload_n 0, 1) := by decide +kernel
theorem dX7_takesField_35 : decode cX7_takesField 35 = .ok (.iload_n 1, 1) := by decide +kernel
theorem dX7_takesField_36 : decode cX7_takesField 36 = .ok (.iload_n 2, 1) := by decide +kernel
theorem dX7_takesField_37 : decode cX7_takesField 37 = .ok (.iload_n 3, 1) := by decide +kernel
theorem dX7_takesField_38 : decode cX7_takesField 38 = .ok (.invokevirtual 169, 3) := by decide +kernel
theorem dX7_takesField_41 : decode cX7_takesField 41 = .ok (.iinc 3 1, 3) := by decide +kernel
theorem dX7_takesField_44 : decode cX7_takesField 44 = .ok (.aload_n 0, 1) := by decide +kernel
theorem dX7_takesField_45 : decode cX7_takesField 45 = .ok (.getfield 154, 3) := by decide +kernel
theorem dX7_takesField_48 : decode cX7_takesField 48 = .ok (.ifCond .eq 21, 3) := by decide +kernel
theorem dX7_takesField_51 : decode cX7_takesField 51 = .ok (.iload_n 3, 1) := by decide +kernel
theorem dX7_takesField_52 : decode cX7_takesField 52 = .ok (.iconst 5, 1) := by decide +kernel
theorem dX7_takesField_53 : decode cX7_takesField 53 = .ok (.if_icmp .ge 16, 3) := by decide +kernel
theorem dX7_takesField_56 : decode cX7_takesField 56 = .ok (.aload_n 0, 1) := by decide +kernel
theorem dX7_takesField_57 : decode cX7_takesField 57 = .ok (.invokevirtual 158, 3) := by decide +kernel
theorem dX7_takesField_60 : decode cX7_takesField 60 = .ok (.bipush 93, 2) := by decide +kernel
theorem dX7_takesField_62 : decode cX7_takesField 62 = .ok (.if_icmp .ne 7, 3) := by decide +kernel
theorem dX7_takesField_65 : decode cX7_takesField 65 = .ok (.iconst 1, 1) := by decide +kernel
theorem dX7_takesField_66 : decode cX7_takesField 66 = .ok (.goto 4, 3) := by decide +kernel
theorem dX7_takesField_69 : decode cX7_takesField 69 = .ok (.iconst 0, 1) := by decide +kernel
theorem dX7_takesField_70 : decode cX7_takesField 70 = .ok (.istore 4, 2) := by decide +kernel
theorem dX7_takesField_72 : decode cX7_takesField 72 = .ok (.aload_n 0, 1) := by decide +kernel
theorem dX7_takesField_73 : decode cX7_takesField 73 = .ok (.dup, 1) := by decide +kernel
theorem dX7_takesField_74 : decode cX7_takesField 74 = .ok (.getfield 151, 3) := by decide +kernel
theorem dX7_takesField_77 : decode cX7_takesField 77 = .ok (.iload 4, 2) := by decide +kernel
theorem dX7_takesField_79 : decode cX7_takesField 79 = .ok (.ifCond .eq 7, 3) := by decide +kernel
theorem dX7_takesField_82 : decode cX7_takesField 82 = .ok (.iconst 1, 1) := by decide +kernel
theorem dX7_takesField_83 : decode cX7_takesField 83 = .ok (.goto 4, 3) := by decide +kernel
theorem dX7_takesField_86 : decode cX7_takesField 86 = .ok (.iconst 0, 1) := by decide +kernel
theorem dX7_takesField_87 : decode cX7_takesField 87 = .ok (.iadd, 1) := by decide +kernel
theorem dX7_takesField_88 : decode cX7_takesField 88 = .ok (.putfield 151, 3) := by decide +kernel
theorem dX7_takesField_91 : decode cX7_takesField 91 = .ok (.goto (-62), 3) := by decide +kernel
theorem dX7_takesField_94 : decode cX7_takesField 94 = .ok (.iload_n 1, 1) := by decide +kernel
theorem dX7_takesField_95 : decode cX7_takesField 95 = .ok (.ifCond .lt 12, 3) := by decide +kernel
theorem dX7_takesField_98 : decode cX7_takesField 98 = .ok (.aload_n 0, 1) := by decide +kernel
theorem dX7_takesField_99 : decode cX7_takesField 99 = .ok (.iload_n 1, 1) := by decide +kernel
theorem dX7_takesField_100 : decode cX7_takesField 100 = .ok (.iconst 2, 1) := by decide +kernel
theorem dX7_takesField_101 : decode cX7_takesField 101 = .ok (.iload_n 2, 1) := by decide +kernel
theorem dX7_takesField_102 : decode cX7_takesField 102 = .ok (.iadd, 1) := by decide +kernel
theorem dX7_takesField_103 : decode cX7_takesField 103 = .ok (.iload_n 3, 1) := by decide +kernel
theorem dX7_takesField_104 : decode cX7_takesField 104 = .ok (.invokevirtual 70, 3) := by decide +kernel
theorem dX7_takesField_107 : decode cX7_takesField 107 = .ok (.return_, 1) := by decide +kernel
theorem dX7_takesAll_0 : decode cX7_takesAll 0 = .ok (.aload_n 0, 1) := by decide +kernel
theorem dX7_takesAll_1 : decode cX7_takesAll 1 = .ok (.iconst 0, 1) := by decide +kernel
theorem dX7_takesAll_2 : decode cX7_takesAll 2 = .ok (.putfield 151, 3) := by decide +kernel
theorem dX7_takesAll_5 : decode cX7_takesAll 5 = .ok (.aload_n 0, 1) := by decide +kernel
theorem dX7_takesAll_6 : decode cX7_takesAll 6 = .ok (.iconst 1, 1) := by decide +kernel
theorem dX7_takesAll_7 : decode cX7_takesAll 7 = .ok (.putfield 154, 3) := by decide +kernel
theorem dX7_takesAll_10 : decode cX7_takesAll 10 = .ok (.iconst 0, 1) := by decide +kernel
theorem dX7_takesAll_11 : decode cX7_takesAll 11 = .ok (.istore_n 2, 1) := by decide +kernel
theorem dX7_takesAll_12 : decode cX7_takesAll 12 = .ok (.iload_n 2, 1) := by decide +kernel
theorem dX7_takesAll_13 : decode cX7_takesAll 13 = .ok (.iconst 4, 1) := by decide +kernel
theorem dX7_takesAll_14 : decode cX7_takesAll 14 = .ok (.if_icmp .ge 51, 3) := by decide +kernel
end
section
theorem dX7_takesAll_17 : decode cX7_takesAll 17 = .ok (.aload_n 0, 1) := by decide +kernel
theorem dX7_takesAll_18 : decode cX7_takesAll 18 = .ok (.getfield 154, 3) := by decide +kernel
theorem dX7_takesAll_21 : decode cX7_takesAll 21 = .ok (.ifCond .eq 44, 3) := by decide +kernel
theorem dX7_takesAll_24 : decode cX7_takesAll 24 = .ok (.iload_n 2, 1) := by decide +kernel
theorem dX7_takesAll_25 : decode cX7_takesAll 25 = .ok (.ifCond .le 21, 3) := by decide +kernel
theorem dX7_takesAll_28 : decode cX7_takesAll 28 = .ok (.aload_n 0, 1) := by decide +kernel
theorem dX7_takesAll_29 : decode cX7_takesAll 29 = .ok (.aload_n 0, 1) := by decide +kernel
theorem dX7_takesAll_30 : decode cX7_takesAll 30 = .ok (.invokevirtual 158, 3) := by decide +kernel
theorem dX7_takesAll_33 : decode cX7_takesAll 33 = .ok (.bipush 94, 2) := by decide +kernel
theorem dX7_takesAll_35 : decode cX7_takesAll 35 = .ok (.if_icmp .ne 7, 3) := by decide +kernel
theorem dX7_takesAll_38 : decode cX7_takesAll 38 = .ok (.iconst 1, 1) := by decide +kernel
theorem dX7_takesAll_39 : decode cX7_takesAll 39 = .ok (.goto 4, 3) := by decide +kernel
theorem dX7_takesAll_42 : decode cX7_takesAll 42 = .ok (.iconst 0, 1) := by decide +kernel
theorem dX7_takesAll_43 : decode cX7_takesAll 43 = .ok (.invokevirtual 162, 3) := by decide +kernel
theorem dX7_takesAll_46 : decode cX7_takesAll 46 = .ok (.aload_n 0, 1) := by decide +kernel
theorem dX7_takesAll_47 : decode cX7_takesAll 47 = .ok (.getfield 154, 3) := by decide +kernel
theorem dX7_takesAll_50 : decode cX7_takesAll 50 = .ok (.ifCond .eq 9, 3) := by decide +kernel
theorem dX7_takesAll_53 : decode cX7_takesAll 53 = .ok (.aload_n 0, 1) := by decide +kernel
theorem dX7_takesAll_54 : decode cX7_takesAll 54 = .ok (.iload_n 1, 1) := by decide +kernel
theorem dX7_takesAll_55 : decode cX7_takesAll 55 = .ok (.iload_n 2, 1) := by decide +kernel
theorem dX7_takesAll_56 : decode cX7_takesAll 56 = .ok (.invokevirtual 172, 3) := by decide +kernel
theorem dX7_takesAll_59 : decode cX7_takesAll 59 = .ok (.iinc 2 1, 3) := by decide +kernel
theorem dX7_takesAll_62 : decode cX7_takesAll 62 = .ok (.goto (-50), 3) := by decide +kernel
theorem dX7_takesAll_65 : decode cX7_takesAll 65 = .ok (.aload_n 0, 1) := by decide +kernel
theorem dX7_takesAll_66 : decode cX7_takesAll 66 = .ok (.getfield 154, 3) := by decide +kernel
theorem dX7_takesAll_69 : decode cX7_takesAll 69 = .ok (.ifCond .eq 18, 3) := by decide +kernel
theorem dX7_takesAll_72 : decode cX7_takesAll 72 = .ok (.aload_n 0, 1) := by decide +kernel
theorem dX7_takesAll_73 : decode cX7_takesAll 73 = .ok (.getfield 151, 3) := by decide +kernel
theorem dX7_takesAll_76 : decode cX7_takesAll 76 = .ok (.aload_n 0, 1) := by decide +kernel
theorem dX7_takesAll_77 : decode cX7_takesAll 77 = .ok (.getfield 148, 3) := by decide +kernel
theorem dX7_takesAll_80 : decode cX7_takesAll 80 = .ok (.if_icmp .ne 7, 3) := by decide +kernel
theorem dX7_takesAll_83 : decode cX7_takesAll 83 = .ok (.iconst 1, 1) := by decide +kernel
theorem dX7_takesAll_84 : decode cX7_takesAll 84 = .ok (.goto 4, 3) := by decide +kernel
theorem dX7_takesAll_87 : decode cX7_takesAll 87 = .ok (.iconst 0, 1) := by decide +kernel
theorem dX7_takesAll_88 : decode cX7_takesAll 88 = .ok (.ireturn, 1) := by decide +kernel
theorem dX7_fault_0 : decode cX7_fault 0 = .ok (.aload_n 0, 1) := by decide +kernel
theorem dX7_fault_1 : decode cX7_fault 1 = .ok (.ldc 176, 2) := by decide +kernel
theorem dX7_fault_3 : decode cX7_fault 3 = .ok (.invokevirtual 177, 3) := by decide +kernel
theorem dX7_fault_6 : decode cX7_fault 6 = .ok (.ifCond .eq 8, 3) := by decide +kernel
theorem dX7_fault_9 : decode cX7_fault 9 = .ok (.ldc 176, 2) := by decide +kernel
theorem dX7_fault_11 : decode cX7_fault 11 = .ok (.goto 7, 3) := by decide +kernel
theorem dX7_fault_14 : decode cX7_fault 14 = .ok (.aload_n 0, 1) := by decide +kernel
theorem dX7_fault_15 : decode cX7_fault 15 = .ok (.getfield 151, 3) := by decide +kernel
theorem dX7_fault_18 : decode cX7_fault 18 = .ok (.ireturn, 1) := by decide +kernel
theorem dX7_load_0 : decode cX7_load 0 = .ok (.aload_n 0, 1) := by decide +kernel
theorem dX7_load_1 : decode cX7_load 1 = .ok (.iload_n 2, 1) := by decide +kernel
theorem dX7_load_2 : decode cX7_load 2 = .ok (.invokevirtual 86, 3) := by decide +kernel
theorem dX7_load_5 : decode cX7_load 5 = .ok (.istore_n 3, 1) := by decide +kernel
theorem dX7_load_6 : decode cX7_load 6 = .ok (.aload_n 0, 1) := by decide +kernel
theorem dX7_load_7 : decode cX7_load 7 = .ok (.iload_n 1, 1) := by decide +kernel
theorem dX7_load_8 : decode cX7_load 8 = .ok (.iload_n 2, 1) := by decide +kernel
theorem dX7_load_9 : decode cX7_load 9 = .ok (.invokevirtual 96, 3) := by decide +kernel
theorem dX7_load_12 : decode cX7_load 12 = .ok (.ifCond .ge 6, 3) := by decide +kernel
theorem dX7_load_15 : decode cX7_load 15 = .ok (.ldc 41, 2) := by decide +kernel
theorem dX7_load_17 : decode cX7_load 17 = .ok (.ireturn, 1) := by decide +kernel
theorem dX7_load_18 : decode cX7_load 18 = .ok (.aload_n 0, 1) := by decide +kernel
theorem dX7_load_19 : decode cX7_load 19 = .ok (.ldc 176, 2) := by decide +kernel
theorem dX7_load_21 : decode cX7_load 21 = .ok (.invokevirtual 177, 3) := by decide +kernel
theorem dX7_load_24 : decode cX7_load 24 = .ok (.ifCond .ne 6, 3) := by decide +kernel
theorem dX7_load_27 : decode cX7_load 27 = .ok (.ldc 180, 2) := by decide +kernel
theorem dX7_load_29 : decode cX7_load 29 = .ok (.ireturn, 1) := by decide +kernel
theorem dX7_load_30 : decode cX7_load 30 = .ok (.aload_n 0, 1) := by decide +kernel
theorem dX7_load_31 : decode cX7_load 31 = .ok (.iload_n 3, 1) := by decide +kernel
theorem dX7_load_32 : decode cX7_load 32 = .ok (.iload_n 1, 1) := by decide +kernel
theorem dX7_load_33 : decode cX7_load 33 = .ok (.invokevirtual 99, 3) := by decide +kernel
theorem dX7_load_36 : decode cX7_load 36 = .ok (.ifCond .eq 6, 3) := by decide +kernel
theorem dX7_load_39 : decode cX7_load 39 = .ok (.ldc 103, 2) := by decide +kernel
theorem dX7_load_41 : decode cX7_load 41 = .ok (.ireturn, 1) := by decide +kernel
theorem dX7_load_42 : decode cX7_load 42 = .ok (.aload_n 0, 1) := by decide +kernel
theorem dX7_load_43 : decode cX7_load 43 = .ok (.invokevirtual 110, 3) := by decide +kernel
theorem dX7_load_46 : decode cX7_load 46 = .ok (.iconst 2, 1) := by decide +kernel
theorem dX7_load_47 : decode cX7_load 47 = .ok (.istore 4, 2) := by decide +kernel
theorem dX7_load_49 : decode cX7_load 49 = .ok (.iload 4, 2) := by decide +kernel
theorem dX7_load_51 : decode cX7_load 51 = .ok (.bipush 106, 2) := by decide +kernel
theorem dX7_load_53 : decode cX7_load 53 = .ok (.if_icmp .ge 17, 3) := by decide +kernel
theorem dX7_load_56 : decode cX7_load 56 = .ok (.aload_n 0, 1) := by decide +kernel
theorem dX7_load_57 : decode cX7_load 57 = .ok (.iload_n 3, 1) := by decide +kernel
theorem dX7_load_58 : decode cX7_load 58 = .ok (.iload 4, 2) := by decide +kernel
theorem dX7_load_60 : decode cX7_load 60 = .ok (.iconst 0, 1) := by decide +kernel
theorem dX7_load_61 : decode cX7_load 61 = .ok (.invokevirtual 70, 3) := by decide +kernel
theorem dX7_load_64 : decode cX7_load 64 = .ok (.iinc 4 1, 3) := by decide +kernel
theorem dX7_load_67 : decode cX7_load 67 = .ok (.goto (-18), 3) := by decide +kernel
theorem dX7_load_70 : decode cX7_load 70 = .ok (.aload_n 0, 1) := by decide +kernel
theorem dX7_load_71 : decode cX7_load 71 = .ok (.iload_n 3, 1) := by decide +kernel
theorem dX7_load_72 : decode cX7_load 72 = .ok (.invokevirtual 177, 3) := by decide +kernel
theorem dX7_load_75 : decode cX7_load 75 = .ok (.istore 4, 2) := by decide +kernel
theorem dX7_load_77 : decode cX7_load 77 = .ok (.iconst 0, 1) := by decide +kernel
theorem dX7_load_78 : decode cX7_load 78 = .ok (.istore 5, 2) := by decide +kernel
theorem dX7_load_80 : decode cX7_load 80 = .ok (.bipush 6, 2) := by decide +kernel
theorem dX7_load_82 : decode cX7_load 82 = .ok (.istore 6, 2) := by decide +kernel
theorem dX7_load_84 : decode cX7_load 84 = .ok (.iload 6, 2) := by decide +kernel
theorem dX7_load_86 : decode cX7_load 86 = .ok (.bipush 26, 2) := by decide +kernel
theorem dX7_load_88 : decode cX7_load 88 = .ok (.if_icmp .ge 21, 3) := by decide +kernel
theorem dX7_load_91 : decode cX7_load 91 = .ok (.iload 5, 2) := by decide +kernel
theorem dX7_load_93 : decode cX7_load 93 = .ok (.aload_n 0, 1) := by decide +kernel
theorem dX7_load_94 : decode cX7_load 94 = .ok (.iload_n 3, 1) := by decide +kernel
theorem dX7_load_95 : decode cX7_load 95 = .ok (.iload 6, 2) := by decide +kernel
theorem dX7_load_97 : decode cX7_load 97 = .ok (.invokevirtual 46, 3) := by decide +kernel
theorem dX7_load_100 : decode cX7_load 100 = .ok (.iadd, 1) := by decide +kernel
theorem dX7_load_101 : decode cX7_load 101 = .ok (.istore 5, 2) := by decide +kernel
theorem dX7_load_103 : decode cX7_load 103 = .ok (.iinc 6 1, 3) := by decide +kernel
theorem dX7_load_106 : decode cX7_load 106 = .ok (.goto (-22), 3) := by decide +kernel
theorem dX7_load_109 : decode cX7_load 109 = .ok (.aload_n 0, 1) := by decide +kernel
theorem dX7_load_110 : decode cX7_load 110 = .ok (.iload 5, 2) := by decide +kernel
theorem dX7_load_112 : decode cX7_load 112 = .ok (.invokevirtual 116, 3) := by decide +kernel
theorem dX7_load_115 : decode cX7_load 115 = .ok (.ireturn, 1) := by decide +kernel
theorem dX7_writes_0 : decode cX7_writes 0 = .ok (.aload_n 0, 1) := by decide +kernel
theorem dX7_writes_1 : decode cX7_writes 1 = .ok (.getfield 22, 3) := by decide +kernel
theorem dX7_writes_4 : decode cX7_writes 4 = .ok (.aload_n 0, 1) := by decide +kernel
theorem dX7_writes_5 : decode cX7_writes 5 = .ok (.getfield 181, 3) := by decide +kernel
theorem dX7_writes_8 : decode cX7_writes 8 = .ok (.iload_n 1, 1) := by decide +kernel
theorem dX7_writes_9 : decode cX7_writes 9 = .ok (.iastore, 1) := by decide +kernel
theorem dX7_writes_10 : decode cX7_writes 10 = .ok (.aload_n 0, 1) := by decide +kernel
theorem dX7_writes_11 : decode cX7_writes 11 = .ok (.dup, 1) := by decide +kernel
theorem dX7_writes_12 : decode cX7_writes 12 = .ok (.getfield 181, 3) := by decide +kernel
theorem dX7_writes_15 : decode cX7_writes 15 = .ok (.iconst 1, 1) := by decide +kernel
theorem dX7_writes_16 : decode cX7_writes 16 = .ok (.iadd, 1) := by decide +kernel
theorem dX7_writes_17 : decode cX7_writes 17 = .ok (.putfield 181, 3) := by decide +kernel
theorem dX7_writes_20 : decode cX7_writes 20 = .ok (.return_, 1) := by decide +kernel
theorem dX7_writesNumber_0 : decode cX7_writesNumber 0 = .ok (.iload_n 1, 1) := by decide +kernel
theorem dX7_writesNumber_1 : decode cX7_writesNumber 1 = .ok (.ifCond .ge 8, 3) := by decide +kernel
theorem dX7_writesNumber_4 : decode cX7_writesNumber 4 = .ok (.iload_n 1, 1) := by decide +kernel
theorem dX7_writesNumber_5 : decode cX7_writesNumber 5 = .ok (.ineg, 1) := by decide +kernel
theorem dX7_writesNumber_6 : decode cX7_writesNumber 6 = .ok (.goto 4, 3) := by decide +kernel
theorem dX7_writesNumber_9 : decode cX7_writesNumber 9 = .ok (.iload_n 1, 1) := by decide +kernel
theorem dX7_writesNumber_10 : decode cX7_writesNumber 10 = .ok (.istore_n 2, 1) := by decide +kernel
theorem dX7_writesNumber_11 : decode cX7_writesNumber 11 = .ok (.iload_n 1, 1) := by decide +kernel
theorem dX7_writesNumber_12 : decode cX7_writesNumber 12 = .ok (.ifCond .ge 9, 3) := by decide +kernel
theorem dX7_writesNumber_15 : decode cX7_writesNumber 15 = .ok (.aload_n 0, 1) := by decide +kernel
theorem dX7_writesNumber_16 : decode cX7_writesNumber 16 = .ok (.bipush 45, 2) := by decide +kernel
theorem dX7_writesNumber_18 : decode cX7_writesNumber 18 = .ok (.invokevirtual 184, 3) := by decide +kernel
theorem dX7_writesNumber_21 : decode cX7_writesNumber 21 = .ok (.iload_n 2, 1) := by decide +kernel
theorem dX7_writesNumber_22 : decode cX7_writesNumber 22 = .ok (.bipush 99, 2) := by decide +kernel
theorem dX7_writesNumber_24 : decode cX7_writesNumber 24 = .ok (.if_icmp .le 14, 3) := by decide +kernel
theorem dX7_writesNumber_27 : decode cX7_writesNumber 27 = .ok (.aload_n 0, 1) := by decide +kernel
theorem dX7_writesNumber_28 : decode cX7_writesNumber 28 = .ok (.bipush 48, 2) := by decide +kernel
theorem dX7_writesNumber_30 : decode cX7_writesNumber 30 = .ok (.iload_n 2, 1) := by decide +kernel
theorem dX7_writesNumber_31 : decode cX7_writesNumber 31 = .ok (.bipush 100, 2) := by decide +kernel
theorem dX7_writesNumber_33 : decode cX7_writesNumber 33 = .ok (.idiv, 1) := by decide +kernel
theorem dX7_writesNumber_34 : decode cX7_writesNumber 34 = .ok (.iadd, 1) := by decide +kernel
theorem dX7_writesNumber_35 : decode cX7_writesNumber 35 = .ok (.invokevirtual 184, 3) := by decide +kernel
theorem dX7_writesNumber_38 : decode cX7_writesNumber 38 = .ok (.iload_n 2, 1) := by decide +kernel
theorem dX7_writesNumber_39 : decode cX7_writesNumber 39 = .ok (.bipush 9, 2) := by decide +kernel
theorem dX7_writesNumber_41 : decode cX7_writesNumber 41 = .ok (.if_icmp .le 17, 3) := by decide +kernel
theorem dX7_writesNumber_44 : decode cX7_writesNumber 44 = .ok (.aload_n 0, 1) := by decide +kernel
theorem dX7_writesNumber_45 : decode cX7_writesNumber 45 = .ok (.bipush 48, 2) := by decide +kernel
theorem dX7_writesNumber_47 : decode cX7_writesNumber 47 = .ok (.iload_n 2, 1) := by decide +kernel
theorem dX7_writesNumber_48 : decode cX7_writesNumber 48 = .ok (.bipush 10, 2) := by decide +kernel
theorem dX7_writesNumber_50 : decode cX7_writesNumber 50 = .ok (.idiv, 1) := by decide +kernel
theorem dX7_writesNumber_51 : decode cX7_writesNumber 51 = .ok (.bipush 10, 2) := by decide +kernel
theorem dX7_writesNumber_53 : decode cX7_writesNumber 53 = .ok (.irem, 1) := by decide +kernel
theorem dX7_writesNumber_54 : decode cX7_writesNumber 54 = .ok (.iadd, 1) := by decide +kernel
theorem dX7_writesNumber_55 : decode cX7_writesNumber 55 = .ok (.invokevirtual 184, 3) := by decide +kernel
theorem dX7_writesNumber_58 : decode cX7_writesNumber 58 = .ok (.aload_n 0, 1) := by decide +kernel
theorem dX7_writesNumber_59 : decode cX7_writesNumber 59 = .ok (.bipush 48, 2) := by decide +kernel
theorem dX7_writesNumber_61 : decode cX7_writesNumber 61 = .ok (.iload_n 2, 1) := by decide +kernel
theorem dX7_writesNumber_62 : decode cX7_writesNumber 62 = .ok (.bipush 10, 2) := by decide +kernel
theorem dX7_writesNumber_64 : decode cX7_writesNumber 64 = .ok (.irem, 1) := by decide +kernel
theorem dX7_writesNumber_65 : decode cX7_writesNumber 65 = .ok (.iadd, 1) := by decide +kernel
theorem dX7_writesNumber_66 : decode cX7_writesNumber 66 = .ok (.invokevirtual 184, 3) := by decide +kernel
theorem dX7_writesNumber_69 : decode cX7_writesNumber 69 = .ok (.return_, 1) := by decide +kernel
theorem dX7_writesField_0 : decode cX7_writesField 0 = .ok (.iconst 0, 1) := by decide +kernel
theorem dX7_writesField_1 : decode cX7_writesField 1 = .ok (.istore_n 3, 1) := by decide +kernel
theorem dX7_writesField_2 : decode cX7_writesField 2 = .ok (.iload_n 3, 1) := by decide +kernel
theorem dX7_writesField_3 : decode cX7_writesField 3 = .ok (.aload_n 0, 1) := by decide +kernel
theorem dX7_writesField_4 : decode cX7_writesField 4 = .ok (.iload_n 1, 1) := by decide +kernel
theorem dX7_writesField_5 : decode cX7_writesField 5 = .ok (.iload_n 2, 1) := by decide +kernel
theorem dX7_writesField_6 : decode cX7_writesField 6 = .ok (.invokevirtual 61, 3) := by decide +kernel
theorem dX7_writesField_9 : decode cX7_writesField 9 = .ok (.if_icmp .ge 64, 3) := by decide +kernel
theorem dX7_writesField_12 : decode cX7_writesField 12 = .ok (.iload_n 3, 1) := by decide +kernel
theorem dX7_writesField_13 : decode cX7_writesField 13 = .ok (.ifCond .le 9, 3) := by decide +kernel
theorem dX7_writesField_16 : decode cX7_writesField 16 = .ok (.aload_n 0, 1) := by decide +kernel
theorem dX7_writesField_17 : decode cX7_writesField 17 = .ok (.bipush 93, 2) := by decide +kernel
theorem dX7_writesField_19 : decode cX7_writesField 19 = .ok (.invokevirtual 184, 3) := by decide +kernel
theorem dX7_writesField_22 : decode cX7_writesField 22 = .ok (.iconst 0, 1) := by decide +kernel
theorem dX7_writesField_23 : decode cX7_writesField 23 = .ok (.istore 4, 2) := by decide +kernel
theorem dX7_writesField_25 : decode cX7_writesField 25 = .ok (.iload 4, 2) := by decide +kernel
theorem dX7_writesField_27 : decode cX7_writesField 27 = .ok (.aload_n 0, 1) := by decide +kernel
theorem dX7_writesField_28 : decode cX7_writesField 28 = .ok (.iload_n 1, 1) := by decide +kernel
theorem dX7_writesField_29 : decode cX7_writesField 29 = .ok (.iload_n 2, 1) := by decide +kernel
theorem dX7_writesField_30 : decode cX7_writesField 30 = .ok (.iload_n 3, 1) := by decide +kernel
theorem dX7_writesField_31 : decode cX7_writesField 31 = .ok (.invokevirtual 67, 3) := by decide +kernel
theorem dX7_writesField_34 : decode cX7_writesField 34 = .ok (.if_icmp .ge 33, 3) := by decide +kernel
theorem dX7_writesField_37 : decode cX7_writesField 37 = .ok (.iload 4, 2) := by decide +kernel
theorem dX7_writesField_39 : decode cX7_writesField 39 = .ok (.ifCond .le 9, 3) := by decide +kernel
theorem dX7_writesField_42 : decode cX7_writesField 42 = .ok (.aload_n 0, 1) := by decide +kernel
theorem dX7_writesField_43 : decode cX7_writesField 43 = .ok (.bipush 47, 2) := by decide +kernel
theorem dX7_writesField_45 : decode cX7_writesField 45 = .ok (.invokevirtual 184, 3) := by decide +kernel
theorem dX7_writesField_48 : decode cX7_writesField 48 = .ok (.aload_n 0, 1) := by decide +kernel
theorem dX7_writesField_49 : decode cX7_writesField 49 = .ok (.aload_n 0, 1) := by decide +kernel
theorem dX7_writesField_50 : decode cX7_writesField 50 = .ok (.iload_n 1, 1) := by decide +kernel
theorem dX7_writesField_51 : decode cX7_writesField 51 = .ok (.iload_n 2, 1) := by decide +kernel
theorem dX7_writesField_52 : decode cX7_writesField 52 = .ok (.iload_n 3, 1) := by decide +kernel
theorem dX7_writesField_53 : decode cX7_writesField 53 = .ok (.iload 4, 2) := by decide +kernel
theorem dX7_writesField_55 : decode cX7_writesField 55 = .ok (.invokevirtual 74, 3) := by decide +kernel
theorem dX7_writesField_58 : decode cX7_writesField 58 = .ok (.invokevirtual 188, 3) := by decide +kernel
theorem dX7_writesField_61 : decode cX7_writesField 61 = .ok (.iinc 4 1, 3) := by decide +kernel
theorem dX7_writesField_64 : decode cX7_writesField 64 = .ok (.goto (-39), 3) := by decide +kernel
theorem dX7_writesField_67 : decode cX7_writesField 67 = .ok (.iinc 3 1, 3) := by decide +kernel
theorem dX7_writesField_70 : decode cX7_writesField 70 = .ok (.goto (-68), 3) := by decide +kernel
theorem dX7_writesField_73 : decode cX7_writesField 73 = .ok (.return_, 1) := by decide +kernel
theorem dX7_print_0 : decode cX7_print 0 = .ok (.aload_n 0, 1) := by decide +kernel
theorem dX7_print_1 : decode cX7_print 1 = .ok (.iload_n 1, 1) := by decide +kernel
theorem dX7_print_2 : decode cX7_print 2 = .ok (.invokevirtual 86, 3) := by decide +kernel
theorem dX7_print_5 : decode cX7_print 5 = .ok (.istore_n 2, 1) := by decide +kernel
theorem dX7_print_6 : decode cX7_print 6 = .ok (.iload_n 2, 1) := by decide +kernel
theorem dX7_print_7 : decode cX7_print 7 = .ok (.ifCond .ge 6, 3) := by decide +kernel
theorem dX7_print_10 : decode cX7_print 10 = .ok (.ldc 41, 2) := by decide +kernel
theorem dX7_print_12 : decode cX7_print 12 = .ok (.ireturn, 1) := by decide +kernel
theorem dX7_print_13 : decode cX7_print 13 = .ok (.aload_n 0, 1) := by decide +kernel
theorem dX7_print_14 : decode cX7_print 14 = .ok (.iconst 0, 1) := by decide +kernel
theorem dX7_print_15 : decode cX7_print 15 = .ok (.putfield 181, 3) := by decide +kernel
theorem dX7_print_18 : decode cX7_print 18 = .ok (.iconst 0, 1) := by decide +kernel
theorem dX7_print_19 : decode cX7_print 19 = .ok (.istore_n 3, 1) := by decide +kernel
theorem dX7_print_20 : decode cX7_print 20 = .ok (.iload_n 3, 1) := by decide +kernel
theorem dX7_print_21 : decode cX7_print 21 = .ok (.iconst 4, 1) := by decide +kernel
theorem dX7_print_22 : decode cX7_print 22 = .ok (.if_icmp .ge 25, 3) := by decide +kernel
theorem dX7_print_25 : decode cX7_print 25 = .ok (.iload_n 3, 1) := by decide +kernel
theorem dX7_print_26 : decode cX7_print 26 = .ok (.ifCond .le 9, 3) := by decide +kernel
theorem dX7_print_29 : decode cX7_print 29 = .ok (.aload_n 0, 1) := by decide +kernel
theorem dX7_print_30 : decode cX7_print 30 = .ok (.bipush 94, 2) := by decide +kernel
theorem dX7_print_32 : decode cX7_print 32 = .ok (.invokevirtual 184, 3) := by decide +kernel
theorem dX7_print_35 : decode cX7_print 35 = .ok (.aload_n 0, 1) := by decide +kernel
theorem dX7_print_36 : decode cX7_print 36 = .ok (.iload_n 2, 1) := by decide +kernel
theorem dX7_print_37 : decode cX7_print 37 = .ok (.iload_n 3, 1) := by decide +kernel
theorem dX7_print_38 : decode cX7_print 38 = .ok (.invokevirtual 191, 3) := by decide +kernel
theorem dX7_print_41 : decode cX7_print 41 = .ok (.iinc 3 1, 3) := by decide +kernel
theorem dX7_print_44 : decode cX7_print 44 = .ok (.goto (-24), 3) := by decide +kernel
theorem dX7_print_47 : decode cX7_print 47 = .ok (.aload_n 0, 1) := by decide +kernel
theorem dX7_print_48 : decode cX7_print 48 = .ok (.getfield 181, 3) := by decide +kernel
theorem dX7_print_51 : decode cX7_print 51 = .ok (.ireturn, 1) := by decide +kernel
theorem dX7_printed_0 : decode cX7_printed 0 = .ok (.iload_n 1, 1) := by decide +kernel
theorem dX7_printed_1 : decode cX7_printed 1 = .ok (.ifCond .ge 8, 3) := by decide +kernel
theorem dX7_printed_4 : decode cX7_printed 4 = .ok (.ldc 85, 2) := by decide +kernel
theorem dX7_printed_6 : decode cX7_printed 6 = .ok (.goto 22, 3) := by decide +kernel
theorem dX7_printed_9 : decode cX7_printed 9 = .ok (.iload_n 1, 1) := by decide +kernel
theorem dX7_printed_10 : decode cX7_printed 10 = .ok (.aload_n 0, 1) := by decide +kernel
theorem dX7_printed_11 : decode cX7_printed 11 = .ok (.getfield 181, 3) := by decide +kernel
theorem dX7_printed_14 : decode cX7_printed 14 = .ok (.if_icmp .ge 12, 3) := by decide +kernel
theorem dX7_printed_17 : decode cX7_printed 17 = .ok (.aload_n 0, 1) := by decide +kernel
theorem dX7_printed_18 : decode cX7_printed 18 = .ok (.getfield 22, 3) := by decide +kernel
theorem dX7_printed_21 : decode cX7_printed 21 = .ok (.iload_n 1, 1) := by decide +kernel
theorem dX7_printed_22 : decode cX7_printed 22 = .ok (.iaload, 1) := by decide +kernel
theorem dX7_printed_23 : decode cX7_printed 23 = .ok (.goto 5, 3) := by decide +kernel
theorem dX7_printed_26 : decode cX7_printed 26 = .ok (.ldc 176, 2) := by decide +kernel
theorem dX7_printed_28 : decode cX7_printed 28 = .ok (.ireturn, 1) := by decide +kernel
theorem dX7_undo_0 : decode cX7_undo 0 = .ok (.aload_n 0, 1) := by decide +kernel
theorem dX7_undo_1 : decode cX7_undo 1 = .ok (.getfield 42, 3) := by decide +kernel
theorem dX7_undo_4 : decode cX7_undo 4 = .ok (.ifCond .ne 6, 3) := by decide +kernel
theorem dX7_undo_7 : decode cX7_undo 7 = .ok (.ldc 176, 2) := by decide +kernel
theorem dX7_undo_9 : decode cX7_undo 9 = .ok (.ireturn, 1) := by decide +kernel
theorem dX7_undo_10 : decode cX7_undo 10 = .ok (.aload_n 0, 1) := by decide +kernel
theorem dX7_undo_11 : decode cX7_undo 11 = .ok (.dup, 1) := by decide +kernel
theorem dX7_undo_12 : decode cX7_undo 12 = .ok (.getfield 42, 3) := by decide +kernel
theorem dX7_undo_15 : decode cX7_undo 15 = .ok (.iconst 1, 1) := by decide +kernel
theorem dX7_undo_16 : decode cX7_undo 16 = .ok (.isub, 1) := by decide +kernel
theorem dX7_undo_17 : decode cX7_undo 17 = .ok (.putfield 42, 3) := by decide +kernel
theorem dX7_undo_20 : decode cX7_undo 20 = .ok (.aload_n 0, 1) := by decide +kernel
theorem dX7_undo_21 : decode cX7_undo 21 = .ok (.getfield 16, 3) := by decide +kernel
theorem dX7_undo_24 : decode cX7_undo 24 = .ok (.sipush 1115, 3) := by decide +kernel
theorem dX7_undo_27 : decode cX7_undo 27 = .ok (.aload_n 0, 1) := by decide +kernel
theorem dX7_undo_28 : decode cX7_undo 28 = .ok (.getfield 42, 3) := by decide +kernel
theorem dX7_undo_31 : decode cX7_undo 31 = .ok (.imul, 1) := by decide +kernel
theorem dX7_undo_32 : decode cX7_undo 32 = .ok (.aload_n 0, 1) := by decide +kernel
theorem dX7_undo_33 : decode cX7_undo 33 = .ok (.getfield 7, 3) := by decide +kernel
theorem dX7_undo_36 : decode cX7_undo 36 = .ok (.iconst 0, 1) := by decide +kernel
theorem dX7_undo_37 : decode cX7_undo 37 = .ok (.invokestatic 37, 3) := by decide +kernel
theorem dX7_undo_40 : decode cX7_undo 40 = .ok (.aload_n 0, 1) := by decide +kernel
theorem dX7_undo_41 : decode cX7_undo 41 = .ok (.getfield 42, 3) := by decide +kernel
theorem dX7_undo_44 : decode cX7_undo 44 = .ok (.ireturn, 1) := by decide +kernel
theorem dX7_isColumn_0 : decode cX7_isColumn 0 = .ok (.iload_n 0, 1) := by decide +kernel
theorem dX7_isColumn_1 : decode cX7_isColumn 1 = .ok (.iconst 0, 1) := by decide +kernel
theorem dX7_isColumn_2 : decode cX7_isColumn 2 = .ok (.iconst 5, 1) := by decide +kernel
theorem dX7_isColumn_3 : decode cX7_isColumn 3 = .ok (.invokestatic 50, 3) := by decide +kernel
theorem dX7_isColumn_6 : decode cX7_isColumn 6 = .ok (.ireturn, 1) := by decide +kernel
theorem dX7_isList_0 : decode cX7_isList 0 = .ok (.iload_n 0, 1) := by decide +kernel
theorem dX7_isList_1 : decode cX7_isList 1 = .ok (.iconst 0, 1) := by decide +kernel
theorem dX7_isList_2 : decode cX7_isList 2 = .ok (.bipush 7, 2) := by decide +kernel
theorem dX7_isList_4 : decode cX7_isList 4 = .ok (.invokestatic 50, 3) := by decide +kernel
theorem dX7_isList_7 : decode cX7_isList 7 = .ok (.ireturn, 1) := by decide +kernel
theorem dX7_ofColumn_0 : decode cX7_ofColumn 0 = .ok (.aload_n 0, 1) := by decide +kernel
theorem dX7_ofColumn_1 : decode cX7_ofColumn 1 = .ok (.getfield 7, 3) := by decide +kernel
theorem dX7_ofColumn_4 : decode cX7_ofColumn 4 = .ok (.iconst 5, 1) := by decide +kernel
theorem dX7_ofColumn_5 : decode cX7_ofColumn 5 = .ok (.iconst 3, 1) := by decide +kernel
theorem dX7_ofColumn_6 : decode cX7_ofColumn 6 = .ok (.iload_n 1, 1) := by decide +kernel
theorem dX7_ofColumn_7 : decode cX7_ofColumn 7 = .ok (.imul, 1) := by decide +kernel
theorem dX7_ofColumn_8 : decode cX7_ofColumn 8 = .ok (.iadd, 1) := by decide +kernel
theorem dX7_ofColumn_9 : decode cX7_ofColumn 9 = .ok (.iload_n 2, 1) := by decide +kernel
theorem dX7_ofColumn_10 : decode cX7_ofColumn 10 = .ok (.iadd, 1) := by decide +kernel
theorem dX7_ofColumn_11 : decode cX7_ofColumn 11 = .ok (.iaload, 1) := by decide +kernel
theorem dX7_ofColumn_12 : decode cX7_ofColumn 12 = .ok (.ireturn, 1) := by decide +kernel
theorem dX7_gives_0 : decode cX7_gives 0 = .ok (.aload_n 0, 1) := by decide +kernel
theorem dX7_gives_1 : decode cX7_gives 1 = .ok (.getfield 25, 3) := by decide +kernel
theorem dX7_gives_4 : decode cX7_gives 4 = .ok (.aload_n 0, 1) := by decide +kernel
theorem dX7_gives_5 : decode cX7_gives 5 = .ok (.getfield 194, 3) := by decide +kernel
theorem dX7_gives_8 : decode cX7_gives 8 = .ok (.iload_n 1, 1) := by decide +kernel
theorem dX7_gives_9 : decode cX7_gives 9 = .ok (.iastore, 1) := by decide +kernel
theorem dX7_gives_10 : decode cX7_gives 10 = .ok (.aload_n 0, 1) := by decide +kernel
theorem dX7_gives_11 : decode cX7_gives 11 = .ok (.dup, 1) := by decide +kernel
theorem dX7_gives_12 : decode cX7_gives 12 = .ok (.getfield 194, 3) := by decide +kernel
theorem dX7_gives_15 : decode cX7_gives 15 = .ok (.iconst 1, 1) := by decide +kernel
theorem dX7_gives_16 : decode cX7_gives 16 = .ok (.iadd, 1) := by decide +kernel
theorem dX7_gives_17 : decode cX7_gives 17 = .ok (.putfield 194, 3) := by decide +kernel
theorem dX7_gives_20 : decode cX7_gives 20 = .ok (.return_, 1) := by decide +kernel
theorem dX7_givesAll_0 : decode cX7_givesAll 0 = .ok (.iconst 0, 1) := by decide +kernel
theorem dX7_givesAll_1 : decode cX7_givesAll 1 = .ok (.istore_n 3, 1) := by decide +kernel
theorem dX7_givesAll_2 : decode cX7_givesAll 2 = .ok (.iload_n 3, 1) := by decide +kernel
theorem dX7_givesAll_3 : decode cX7_givesAll 3 = .ok (.aload_n 0, 1) := by decide +kernel
theorem dX7_givesAll_4 : decode cX7_givesAll 4 = .ok (.iload_n 1, 1) := by decide +kernel
theorem dX7_givesAll_5 : decode cX7_givesAll 5 = .ok (.iload_n 2, 1) := by decide +kernel
theorem dX7_givesAll_6 : decode cX7_givesAll 6 = .ok (.invokevirtual 61, 3) := by decide +kernel
theorem dX7_givesAll_9 : decode cX7_givesAll 9 = .ok (.if_icmp .ge 43, 3) := by decide +kernel
theorem dX7_givesAll_12 : decode cX7_givesAll 12 = .ok (.iconst 0, 1) := by decide +kernel
theorem dX7_givesAll_13 : decode cX7_givesAll 13 = .ok (.istore 4, 2) := by decide +kernel
theorem dX7_givesAll_15 : decode cX7_givesAll 15 = .ok (.iload 4, 2) := by decide +kernel
theorem dX7_givesAll_17 : decode cX7_givesAll 17 = .ok (.aload_n 0, 1) := by decide +kernel
theorem dX7_givesAll_18 : decode cX7_givesAll 18 = .ok (.iload_n 1, 1) := by decide +kernel
theorem dX7_givesAll_19 : decode cX7_givesAll 19 = .ok (.iload_n 2, 1) := by decide +kernel
theorem dX7_givesAll_20 : decode cX7_givesAll 20 = .ok (.iload_n 3, 1) := by decide +kernel
theorem dX7_givesAll_21 : decode cX7_givesAll 21 = .ok (.invokevirtual 67, 3) := by decide +kernel
theorem dX7_givesAll_24 : decode cX7_givesAll 24 = .ok (.if_icmp .ge 22, 3) := by decide +kernel
theorem dX7_givesAll_27 : decode cX7_givesAll 27 = .ok (.aload_n 0, 1) := by decide +kernel
theorem dX7_givesAll_28 : decode cX7_givesAll 28 = .ok (.aload_n 0, 1) := by decide +kernel
theorem dX7_givesAll_29 : decode cX7_givesAll 29 = .ok (.iload_n 1, 1) := by decide +kernel
theorem dX7_givesAll_30 : decode cX7_givesAll 30 = .ok (.iload_n 2, 1) := by decide +kernel
theorem dX7_givesAll_31 : decode cX7_givesAll 31 = .ok (.iload_n 3, 1) := by decide +kernel
theorem dX7_givesAll_32 : decode cX7_givesAll 32 = .ok (.iload 4, 2) := by decide +kernel
theorem dX7_givesAll_34 : decode cX7_givesAll 34 = .ok (.invokevirtual 74, 3) := by decide +kernel
theorem dX7_givesAll_37 : decode cX7_givesAll 37 = .ok (.invokevirtual 197, 3) := by decide +kernel
theorem dX7_givesAll_40 : decode cX7_givesAll 40 = .ok (.iinc 4 1, 3) := by decide +kernel
theorem dX7_givesAll_43 : decode cX7_givesAll 43 = .ok (.goto (-28), 3) := by decide +kernel
theorem dX7_givesAll_46 : decode cX7_givesAll 46 = .ok (.iinc 3 1, 3) := by decide +kernel
theorem dX7_givesAll_49 : decode cX7_givesAll 49 = .ok (.goto (-47), 3) := by decide +kernel
theorem dX7_givesAll_52 : decode cX7_givesAll 52 = .ok (.return_, 1) := by decide +kernel
theorem dX7_sumOf_0 : decode cX7_sumOf 0 = .ok (.iconst 0, 1) := by decide +kernel
theorem dX7_sumOf_1 : decode cX7_sumOf 1 = .ok (.istore_n 3, 1) := by decide +kernel
theorem dX7_sumOf_2 : decode cX7_sumOf 2 = .ok (.iconst 0, 1) := by decide +kernel
theorem dX7_sumOf_3 : decode cX7_sumOf 3 = .ok (.istore 4, 2) := by decide +kernel
theorem dX7_sumOf_5 : decode cX7_sumOf 5 = .ok (.iload 4, 2) := by decide +kernel
theorem dX7_sumOf_7 : decode cX7_sumOf 7 = .ok (.aload_n 0, 1) := by decide +kernel
theorem dX7_sumOf_8 : decode cX7_sumOf 8 = .ok (.iload_n 1, 1) := by decide +kernel
theorem dX7_sumOf_9 : decode cX7_sumOf 9 = .ok (.iload_n 2, 1) := by decide +kernel
theorem dX7_sumOf_10 : decode cX7_sumOf 10 = .ok (.invokevirtual 61, 3) := by decide +kernel
theorem dX7_sumOf_13 : decode cX7_sumOf 13 = .ok (.if_icmp .ge 44, 3) := by decide +kernel
theorem dX7_sumOf_16 : decode cX7_sumOf 16 = .ok (.iconst 0, 1) := by decide +kernel
theorem dX7_sumOf_17 : decode cX7_sumOf 17 = .ok (.istore 5, 2) := by decide +kernel
theorem dX7_sumOf_19 : decode cX7_sumOf 19 = .ok (.iload 5, 2) := by decide +kernel
theorem dX7_sumOf_21 : decode cX7_sumOf 21 = .ok (.aload_n 0, 1) := by decide +kernel
theorem dX7_sumOf_22 : decode cX7_sumOf 22 = .ok (.iload_n 1, 1) := by decide +kernel
theorem dX7_sumOf_23 : decode cX7_sumOf 23 = .ok (.iload_n 2, 1) := by decide +kernel
theorem dX7_sumOf_24 : decode cX7_sumOf 24 = .ok (.iload 4, 2) := by decide +kernel
theorem dX7_sumOf_26 : decode cX7_sumOf 26 = .ok (.invokevirtual 67, 3) := by decide +kernel
theorem dX7_sumOf_29 : decode cX7_sumOf 29 = .ok (.if_icmp .ge 22, 3) := by decide +kernel
theorem dX7_sumOf_32 : decode cX7_sumOf 32 = .ok (.iload_n 3, 1) := by decide +kernel
theorem dX7_sumOf_33 : decode cX7_sumOf 33 = .ok (.aload_n 0, 1) := by decide +kernel
theorem dX7_sumOf_34 : decode cX7_sumOf 34 = .ok (.iload_n 1, 1) := by decide +kernel
theorem dX7_sumOf_35 : decode cX7_sumOf 35 = .ok (.iload_n 2, 1) := by decide +kernel
theorem dX7_sumOf_36 : decode cX7_sumOf 36 = .ok (.iload 4, 2) := by decide +kernel
theorem dX7_sumOf_38 : decode cX7_sumOf 38 = .ok (.iload 5, 2) := by decide +kernel
theorem dX7_sumOf_40 : decode cX7_sumOf 40 = .ok (.invokevirtual 74, 3) := by decide +kernel
theorem dX7_sumOf_43 : decode cX7_sumOf 43 = .ok (.iadd, 1) := by decide +kernel
theorem dX7_sumOf_44 : decode cX7_sumOf 44 = .ok (.istore_n 3, 1) := by decide +kernel
theorem dX7_sumOf_45 : decode cX7_sumOf 45 = .ok (.iinc 5 1, 3) := by decide +kernel
theorem dX7_sumOf_48 : decode cX7_sumOf 48 = .ok (.goto (-29), 3) := by decide +kernel
theorem dX7_sumOf_51 : decode cX7_sumOf 51 = .ok (.iinc 4 1, 3) := by decide +kernel
theorem dX7_sumOf_54 : decode cX7_sumOf 54 = .ok (.goto (-49), 3) := by decide +kernel
theorem dX7_sumOf_57 : decode cX7_sumOf 57 = .ok (.iload_n 3, 1) := by decide +kernel
theorem dX7_sumOf_58 : decode cX7_sumOf 58 = .ok (.ireturn, 1) := by decide +kernel
theorem dX7_givesGreatest_0 : decode cX7_givesGreatest 0 = .ok (.iconst 0, 1) := by decide +kernel
theorem dX7_givesGreatest_1 : decode cX7_givesGreatest 1 = .ok (.istore_n 3, 1) := by decide +kernel
theorem dX7_givesGreatest_2 : decode cX7_givesGreatest 2 = .ok (.iload_n 3, 1) := by decide +kernel
theorem dX7_givesGreatest_3 : decode cX7_givesGreatest 3 = .ok (.aload_n 0, 1) := by decide +kernel
theorem dX7_givesGreatest_4 : decode cX7_givesGreatest 4 = .ok (.iload_n 1, 1) := by decide +kernel
theorem dX7_givesGreatest_5 : decode cX7_givesGreatest 5 = .ok (.iload_n 2, 1) := by decide +kernel
theorem dX7_givesGreatest_6 : decode cX7_givesGreatest 6 = .ok (.invokevirtual 61, 3) := by decide +kernel
theorem dX7_givesGreatest_9 : decode cX7_givesGreatest 9 = .ok (.if_icmp .ge 76, 3) := by decide +kernel
theorem dX7_givesGreatest_12 : decode cX7_givesGreatest 12 = .ok (.aload_n 0, 1) := by decide +kernel
theorem dX7_givesGreatest_13 : decode cX7_givesGreatest 13 = .ok (.iload_n 1, 1) := by decide +kernel
theorem dX7_givesGreatest_14 : decode cX7_givesGreatest 14 = .ok (.iload_n 2, 1) := by decide +kernel
theorem dX7_givesGreatest_15 : decode cX7_givesGreatest 15 = .ok (.iload_n 3, 1) := by decide +kernel
theorem dX7_givesGreatest_16 : decode cX7_givesGreatest 16 = .ok (.iconst 0, 1) := by decide +kernel
theorem dX7_givesGreatest_17 : decode cX7_givesGreatest 17 = .ok (.invokevirtual 74, 3) := by decide +kernel
theorem dX7_givesGreatest_20 : decode cX7_givesGreatest 20 = .ok (.istore 4, 2) := by decide +kernel
theorem dX7_givesGreatest_22 : decode cX7_givesGreatest 22 = .ok (.iconst 1, 1) := by decide +kernel
theorem dX7_givesGreatest_23 : decode cX7_givesGreatest 23 = .ok (.istore 5, 2) := by decide +kernel
theorem dX7_givesGreatest_25 : decode cX7_givesGreatest 25 = .ok (.iload 5, 2) := by decide +kernel
theorem dX7_givesGreatest_27 : decode cX7_givesGreatest 27 = .ok (.aload_n 0, 1) := by decide +kernel
theorem dX7_givesGreatest_28 : decode cX7_givesGreatest 28 = .ok (.iload_n 1, 1) := by decide +kernel
theorem dX7_givesGreatest_29 : decode cX7_givesGreatest 29 = .ok (.iload_n 2, 1) := by decide +kernel
theorem dX7_givesGreatest_30 : decode cX7_givesGreatest 30 = .ok (.iload_n 3, 1) := by decide +kernel
theorem dX7_givesGreatest_31 : decode cX7_givesGreatest 31 = .ok (.invokevirtual 67, 3) := by decide +kernel
theorem dX7_givesGreatest_34 : decode cX7_givesGreatest 34 = .ok (.if_icmp .ge 39, 3) := by decide +kernel
theorem dX7_givesGreatest_37 : decode cX7_givesGreatest 37 = .ok (.aload_n 0, 1) := by decide +kernel
theorem dX7_givesGreatest_38 : decode cX7_givesGreatest 38 = .ok (.iload_n 1, 1) := by decide +kernel
theorem dX7_givesGreatest_39 : decode cX7_givesGreatest 39 = .ok (.iload_n 2, 1) := by decide +kernel
theorem dX7_givesGreatest_40 : decode cX7_givesGreatest 40 = .ok (.iload_n 3, 1) := by decide +kernel
theorem dX7_givesGreatest_41 : decode cX7_givesGreatest 41 = .ok (.iload 5, 2) := by decide +kernel
theorem dX7_givesGreatest_43 : decode cX7_givesGreatest 43 = .ok (.invokevirtual 74, 3) := by decide +kernel
theorem dX7_givesGreatest_46 : decode cX7_givesGreatest 46 = .ok (.iload 4, 2) := by decide +kernel
theorem dX7_givesGreatest_48 : decode cX7_givesGreatest 48 = .ok (.if_icmp .le 15, 3) := by decide +kernel
theorem dX7_givesGreatest_51 : decode cX7_givesGreatest 51 = .ok (.aload_n 0, 1) := by decide +kernel
theorem dX7_givesGreatest_52 : decode cX7_givesGreatest 52 = .ok (.iload_n 1, 1) := by decide +kernel
theorem dX7_givesGreatest_53 : decode cX7_givesGreatest 53 = .ok (.iload_n 2, 1) := by decide +kernel
theorem dX7_givesGreatest_54 : decode cX7_givesGreatest 54 = .ok (.iload_n 3, 1) := by decide +kernel
theorem dX7_givesGreatest_55 : decode cX7_givesGreatest 55 = .ok (.iload 5, 2) := by decide +kernel
theorem dX7_givesGreatest_57 : decode cX7_givesGreatest 57 = .ok (.invokevirtual 74, 3) := by decide +kernel
theorem dX7_givesGreatest_60 : decode cX7_givesGreatest 60 = .ok (.goto 5, 3) := by decide +kernel
theorem dX7_givesGreatest_63 : decode cX7_givesGreatest 63 = .ok (.iload 4, 2) := by decide +kernel
theorem dX7_givesGreatest_65 : decode cX7_givesGreatest 65 = .ok (.istore 4, 2) := by decide +kernel
theorem dX7_givesGreatest_67 : decode cX7_givesGreatest 67 = .ok (.iinc 5 1, 3) := by decide +kernel
theorem dX7_givesGreatest_70 : decode cX7_givesGreatest 70 = .ok (.goto (-45), 3) := by decide +kernel
theorem dX7_givesGreatest_73 : decode cX7_givesGreatest 73 = .ok (.aload_n 0, 1) := by decide +kernel
theorem dX7_givesGreatest_74 : decode cX7_givesGreatest 74 = .ok (.iload 4, 2) := by decide +kernel
theorem dX7_givesGreatest_76 : decode cX7_givesGreatest 76 = .ok (.invokevirtual 197, 3) := by decide +kernel
theorem dX7_givesGreatest_79 : decode cX7_givesGreatest 79 = .ok (.iinc 3 1, 3) := by decide +kernel
theorem dX7_givesGreatest_82 : decode cX7_givesGreatest 82 = .ok (.goto (-80), 3) := by decide +kernel
theorem dX7_givesGreatest_85 : decode cX7_givesGreatest 85 = .ok (.return_, 1) := by decide +kernel
theorem dX7_givesProducts_0 : decode cX7_givesProducts 0 = .ok (.iconst 0, 1) := by decide +kernel
theorem dX7_givesProducts_1 : decode cX7_givesProducts 1 = .ok (.istore 4, 2) := by decide +kernel
theorem dX7_givesProducts_3 : decode cX7_givesProducts 3 = .ok (.aload_n 0, 1) := by decide +kernel
theorem dX7_givesProducts_4 : decode cX7_givesProducts 4 = .ok (.iload_n 1, 1) := by decide +kernel
theorem dX7_givesProducts_5 : decode cX7_givesProducts 5 = .ok (.iload_n 2, 1) := by decide +kernel
theorem dX7_givesProducts_6 : decode cX7_givesProducts 6 = .ok (.iload 4, 2) := by decide +kernel
theorem dX7_givesProducts_8 : decode cX7_givesProducts 8 = .ok (.invokevirtual 64, 3) := by decide +kernel
theorem dX7_givesProducts_11 : decode cX7_givesProducts 11 = .ok (.ifCond .eq 43, 3) := by decide +kernel
theorem dX7_givesProducts_14 : decode cX7_givesProducts 14 = .ok (.aload_n 0, 1) := by decide +kernel
theorem dX7_givesProducts_15 : decode cX7_givesProducts 15 = .ok (.iload_n 1, 1) := by decide +kernel
theorem dX7_givesProducts_16 : decode cX7_givesProducts 16 = .ok (.iload_n 3, 1) := by decide +kernel
theorem dX7_givesProducts_17 : decode cX7_givesProducts 17 = .ok (.iload 4, 2) := by decide +kernel
theorem dX7_givesProducts_19 : decode cX7_givesProducts 19 = .ok (.invokevirtual 64, 3) := by decide +kernel
theorem dX7_givesProducts_22 : decode cX7_givesProducts 22 = .ok (.ifCond .eq 32, 3) := by decide +kernel
theorem dX7_givesProducts_25 : decode cX7_givesProducts 25 = .ok (.aload_n 0, 1) := by decide +kernel
theorem dX7_givesProducts_26 : decode cX7_givesProducts 26 = .ok (.aload_n 0, 1) := by decide +kernel
theorem dX7_givesProducts_27 : decode cX7_givesProducts 27 = .ok (.iload_n 1, 1) := by decide +kernel
theorem dX7_givesProducts_28 : decode cX7_givesProducts 28 = .ok (.iload_n 2, 1) := by decide +kernel
theorem dX7_givesProducts_29 : decode cX7_givesProducts 29 = .ok (.iload 4, 2) := by decide +kernel
theorem dX7_givesProducts_31 : decode cX7_givesProducts 31 = .ok (.iconst 0, 1) := by decide +kernel
theorem dX7_givesProducts_32 : decode cX7_givesProducts 32 = .ok (.invokevirtual 74, 3) := by decide +kernel
theorem dX7_givesProducts_35 : decode cX7_givesProducts 35 = .ok (.aload_n 0, 1) := by decide +kernel
theorem dX7_givesProducts_36 : decode cX7_givesProducts 36 = .ok (.iload_n 1, 1) := by decide +kernel
theorem dX7_givesProducts_37 : decode cX7_givesProducts 37 = .ok (.iload_n 3, 1) := by decide +kernel
theorem dX7_givesProducts_38 : decode cX7_givesProducts 38 = .ok (.iload 4, 2) := by decide +kernel
theorem dX7_givesProducts_40 : decode cX7_givesProducts 40 = .ok (.iconst 0, 1) := by decide +kernel
theorem dX7_givesProducts_41 : decode cX7_givesProducts 41 = .ok (.invokevirtual 74, 3) := by decide +kernel
theorem dX7_givesProducts_44 : decode cX7_givesProducts 44 = .ok (.imul, 1) := by decide +kernel
theorem dX7_givesProducts_45 : decode cX7_givesProducts 45 = .ok (.invokevirtual 197, 3) := by decide +kernel
theorem dX7_givesProducts_48 : decode cX7_givesProducts 48 = .ok (.iinc 4 1, 3) := by decide +kernel
theorem dX7_givesProducts_51 : decode cX7_givesProducts 51 = .ok (.goto (-48), 3) := by decide +kernel
theorem dX7_givesProducts_54 : decode cX7_givesProducts 54 = .ok (.return_, 1) := by decide +kernel
theorem dX7_tells_0 : decode cX7_tells 0 = .ok (.aload_n 0, 1) := by decide +kernel
theorem dX7_tells_1 : decode cX7_tells 1 = .ok (.iconst 0, 1) := by decide +kernel
theorem dX7_tells_2 : decode cX7_tells 2 = .ok (.putfield 194, 3) := by decide +kernel
theorem dX7_tells_5 : decode cX7_tells 5 = .ok (.aload_n 0, 1) := by decide +kernel
theorem dX7_tells_6 : decode cX7_tells 6 = .ok (.iload_n 2, 1) := by decide +kernel
theorem dX7_tells_7 : decode cX7_tells 7 = .ok (.iconst 1, 1) := by decide +kernel
theorem dX7_tells_8 : decode cX7_tells 8 = .ok (.invokevirtual 200, 3) := by decide +kernel
theorem dX7_tells_11 : decode cX7_tells 11 = .ok (.istore_n 3, 1) := by decide +kernel
theorem dX7_tells_12 : decode cX7_tells 12 = .ok (.aload_n 0, 1) := by decide +kernel
theorem dX7_tells_13 : decode cX7_tells 13 = .ok (.iload_n 2, 1) := by decide +kernel
theorem dX7_tells_14 : decode cX7_tells 14 = .ok (.iconst 0, 1) := by decide +kernel
theorem dX7_tells_15 : decode cX7_tells 15 = .ok (.invokevirtual 200, 3) := by decide +kernel
theorem dX7_tells_18 : decode cX7_tells 18 = .ok (.tableswitch 74 0 3 #[30, 39, 52, 65], 30) := by decide +kernel
theorem dX7_tells_48 : decode cX7_tells 48 = .ok (.aload_n 0, 1) := by decide +kernel
theorem dX7_tells_49 : decode cX7_tells 49 = .ok (.iload_n 1, 1) := by decide +kernel
theorem dX7_tells_50 : decode cX7_tells 50 = .ok (.iload_n 3, 1) := by decide +kernel
theorem dX7_tells_51 : decode cX7_tells 51 = .ok (.invokevirtual 203, 3) := by decide +kernel
theorem dX7_tells_54 : decode cX7_tells 54 = .ok (.goto 50, 3) := by decide +kernel
theorem dX7_tells_57 : decode cX7_tells 57 = .ok (.aload_n 0, 1) := by decide +kernel
theorem dX7_tells_58 : decode cX7_tells 58 = .ok (.aload_n 0, 1) := by decide +kernel
theorem dX7_tells_59 : decode cX7_tells 59 = .ok (.iload_n 1, 1) := by decide +kernel
theorem dX7_tells_60 : decode cX7_tells 60 = .ok (.iload_n 3, 1) := by decide +kernel
theorem dX7_tells_61 : decode cX7_tells 61 = .ok (.invokevirtual 61, 3) := by decide +kernel
theorem dX7_tells_64 : decode cX7_tells 64 = .ok (.invokevirtual 197, 3) := by decide +kernel
theorem dX7_tells_67 : decode cX7_tells 67 = .ok (.goto 37, 3) := by decide +kernel
theorem dX7_tells_70 : decode cX7_tells 70 = .ok (.aload_n 0, 1) := by decide +kernel
theorem dX7_tells_71 : decode cX7_tells 71 = .ok (.aload_n 0, 1) := by decide +kernel
theorem dX7_tells_72 : decode cX7_tells 72 = .ok (.iload_n 1, 1) := by decide +kernel
theorem dX7_tells_73 : decode cX7_tells 73 = .ok (.iload_n 3, 1) := by decide +kernel
theorem dX7_tells_74 : decode cX7_tells 74 = .ok (.invokevirtual 206, 3) := by decide +kernel
theorem dX7_tells_77 : decode cX7_tells 77 = .ok (.invokevirtual 197, 3) := by decide +kernel
theorem dX7_tells_80 : decode cX7_tells 80 = .ok (.goto 24, 3) := by decide +kernel
theorem dX7_tells_83 : decode cX7_tells 83 = .ok (.aload_n 0, 1) := by decide +kernel
theorem dX7_tells_84 : decode cX7_tells 84 = .ok (.iload_n 1, 1) := by decide +kernel
theorem dX7_tells_85 : decode cX7_tells 85 = .ok (.iload_n 3, 1) := by decide +kernel
theorem dX7_tells_86 : decode cX7_tells 86 = .ok (.invokevirtual 209, 3) := by decide +kernel
theorem dX7_tells_89 : decode cX7_tells 89 = .ok (.goto 15, 3) := by decide +kernel
theorem dX7_tells_92 : decode cX7_tells 92 = .ok (.aload_n 0, 1) := by decide +kernel
theorem dX7_tells_93 : decode cX7_tells 93 = .ok (.iload_n 1, 1) := by decide +kernel
theorem dX7_tells_94 : decode cX7_tells 94 = .ok (.iload_n 3, 1) := by decide +kernel
theorem dX7_tells_95 : decode cX7_tells 95 = .ok (.aload_n 0, 1) := by decide +kernel
theorem dX7_tells_96 : decode cX7_tells 96 = .ok (.iload_n 2, 1) := by decide +kernel
theorem dX7_tells_97 : decode cX7_tells 97 = .ok (.iconst 2, 1) := by decide +kernel
theorem dX7_tells_98 : decode cX7_tells 98 = .ok (.invokevirtual 200, 3) := by decide +kernel
theorem dX7_tells_101 : decode cX7_tells 101 = .ok (.invokevirtual 212, 3) := by decide +kernel
theorem dX7_tells_104 : decode cX7_tells 104 = .ok (.aload_n 0, 1) := by decide +kernel
theorem dX7_tells_105 : decode cX7_tells 105 = .ok (.getfield 194, 3) := by decide +kernel
theorem dX7_tells_108 : decode cX7_tells 108 = .ok (.ireturn, 1) := by decide +kernel
theorem dX7_goAssociate_0 : decode cX7_goAssociate 0 = .ok (.iload_n 1, 1) := by decide +kernel
theorem dX7_goAssociate_1 : decode cX7_goAssociate 1 = .ok (.invokestatic 128, 3) := by decide +kernel
theorem dX7_goAssociate_4 : decode cX7_goAssociate 4 = .ok (.ifCond .ne 6, 3) := by decide +kernel
theorem dX7_goAssociate_7 : decode cX7_goAssociate 7 = .ok (.ldc 41, 2) := by decide +kernel
theorem dX7_goAssociate_9 : decode cX7_goAssociate 9 = .ok (.ireturn, 1) := by decide +kernel
theorem dX7_goAssociate_10 : decode cX7_goAssociate 10 = .ok (.aload_n 0, 1) := by decide +kernel
theorem dX7_goAssociate_11 : decode cX7_goAssociate 11 = .ok (.getfield 7, 3) := by decide +kernel
theorem dX7_goAssociate_14 : decode cX7_goAssociate 14 = .ok (.iconst 1, 1) := by decide +kernel
theorem dX7_goAssociate_15 : decode cX7_goAssociate 15 = .ok (.iload_n 1, 1) := by decide +kernel
theorem dX7_goAssociate_16 : decode cX7_goAssociate 16 = .ok (.iadd, 1) := by decide +kernel
theorem dX7_goAssociate_17 : decode cX7_goAssociate 17 = .ok (.iload_n 2, 1) := by decide +kernel
theorem dX7_goAssociate_18 : decode cX7_goAssociate 18 = .ok (.ifCond .eq 7, 3) := by decide +kernel
theorem dX7_goAssociate_21 : decode cX7_goAssociate 21 = .ok (.iconst 1, 1) := by decide +kernel
theorem dX7_goAssociate_22 : decode cX7_goAssociate 22 = .ok (.goto 4, 3) := by decide +kernel
theorem dX7_goAssociate_25 : decode cX7_goAssociate 25 = .ok (.iconst 0, 1) := by decide +kernel
theorem dX7_goAssociate_26 : decode cX7_goAssociate 26 = .ok (.iastore, 1) := by decide +kernel
theorem dX7_goAssociate_27 : decode cX7_goAssociate 27 = .ok (.aload_n 0, 1) := by decide +kernel
theorem dX7_goAssociate_28 : decode cX7_goAssociate 28 = .ok (.getfield 7, 3) := by decide +kernel
theorem dX7_goAssociate_31 : decode cX7_goAssociate 31 = .ok (.iconst 1, 1) := by decide +kernel
theorem dX7_goAssociate_32 : decode cX7_goAssociate 32 = .ok (.iaload, 1) := by decide +kernel
theorem dX7_goAssociate_33 : decode cX7_goAssociate 33 = .ok (.aload_n 0, 1) := by decide +kernel
theorem dX7_goAssociate_34 : decode cX7_goAssociate 34 = .ok (.getfield 7, 3) := by decide +kernel
theorem dX7_goAssociate_37 : decode cX7_goAssociate 37 = .ok (.iconst 2, 1) := by decide +kernel
theorem dX7_goAssociate_38 : decode cX7_goAssociate 38 = .ok (.iaload, 1) := by decide +kernel
theorem dX7_goAssociate_39 : decode cX7_goAssociate 39 = .ok (.iadd, 1) := by decide +kernel
theorem dX7_goAssociate_40 : decode cX7_goAssociate 40 = .ok (.aload_n 0, 1) := by decide +kernel
theorem dX7_goAssociate_41 : decode cX7_goAssociate 41 = .ok (.getfield 7, 3) := by decide +kernel
theorem dX7_goAssociate_44 : decode cX7_goAssociate 44 = .ok (.iconst 3, 1) := by decide +kernel
theorem dX7_goAssociate_45 : decode cX7_goAssociate 45 = .ok (.iaload, 1) := by decide +kernel
theorem dX7_goAssociate_46 : decode cX7_goAssociate 46 = .ok (.iadd, 1) := by decide +kernel
theorem dX7_goAssociate_47 : decode cX7_goAssociate 47 = .ok (.aload_n 0, 1) := by decide +kernel
theorem dX7_goAssociate_48 : decode cX7_goAssociate 48 = .ok (.getfield 7, 3) := by decide +kernel
theorem dX7_goAssociate_51 : decode cX7_goAssociate 51 = .ok (.iconst 4, 1) := by decide +kernel
theorem dX7_goAssociate_52 : decode cX7_goAssociate 52 = .ok (.iaload, 1) := by decide +kernel
theorem dX7_goAssociate_53 : decode cX7_goAssociate 53 = .ok (.iadd, 1) := by decide +kernel
theorem dX7_goAssociate_54 : decode cX7_goAssociate 54 = .ok (.ireturn, 1) := by decide +kernel
theorem dX7_goDefine_0 : decode cX7_goDefine 0 = .ok (.iload_n 1, 1) := by decide +kernel
theorem dX7_goDefine_1 : decode cX7_goDefine 1 = .ok (.invokestatic 215, 3) := by decide +kernel
theorem dX7_goDefine_4 : decode cX7_goDefine 4 = .ok (.ifCond .eq 18, 3) := by decide +kernel
theorem dX7_goDefine_7 : decode cX7_goDefine 7 = .ok (.iload_n 3, 1) := by decide +kernel
theorem dX7_goDefine_8 : decode cX7_goDefine 8 = .ok (.invokestatic 128, 3) := by decide +kernel
theorem dX7_goDefine_11 : decode cX7_goDefine 11 = .ok (.ifCond .eq 11, 3) := by decide +kernel
theorem dX7_goDefine_14 : decode cX7_goDefine 14 = .ok (.iload 4, 2) := by decide +kernel
theorem dX7_goDefine_16 : decode cX7_goDefine 16 = .ok (.invokestatic 128, 3) := by decide +kernel
theorem dX7_goDefine_19 : decode cX7_goDefine 19 = .ok (.ifCond .ne 6, 3) := by decide +kernel
theorem dX7_goDefine_22 : decode cX7_goDefine 22 = .ok (.ldc 41, 2) := by decide +kernel
theorem dX7_goDefine_24 : decode cX7_goDefine 24 = .ok (.ireturn, 1) := by decide +kernel
theorem dX7_goDefine_25 : decode cX7_goDefine 25 = .ok (.iload_n 2, 1) := by decide +kernel
theorem dX7_goDefine_26 : decode cX7_goDefine 26 = .ok (.iconst 0, 1) := by decide +kernel
theorem dX7_goDefine_27 : decode cX7_goDefine 27 = .ok (.iconst 4, 1) := by decide +kernel
theorem dX7_goDefine_28 : decode cX7_goDefine 28 = .ok (.invokestatic 50, 3) := by decide +kernel
theorem dX7_goDefine_31 : decode cX7_goDefine 31 = .ok (.ifCond .ne 6, 3) := by decide +kernel
theorem dX7_goDefine_34 : decode cX7_goDefine 34 = .ok (.ldc 85, 2) := by decide +kernel
theorem dX7_goDefine_36 : decode cX7_goDefine 36 = .ok (.ireturn, 1) := by decide +kernel
theorem dX7_goDefine_37 : decode cX7_goDefine 37 = .ok (.aload_n 0, 1) := by decide +kernel
theorem dX7_goDefine_38 : decode cX7_goDefine 38 = .ok (.iload_n 1, 1) := by decide +kernel
theorem dX7_goDefine_39 : decode cX7_goDefine 39 = .ok (.iconst 0, 1) := by decide +kernel
theorem dX7_goDefine_40 : decode cX7_goDefine 40 = .ok (.invokevirtual 200, 3) := by decide +kernel
theorem dX7_goDefine_43 : decode cX7_goDefine 43 = .ok (.istore 5, 2) := by decide +kernel
theorem dX7_goDefine_45 : decode cX7_goDefine 45 = .ok (.aload_n 0, 1) := by decide +kernel
theorem dX7_goDefine_46 : decode cX7_goDefine 46 = .ok (.getfield 7, 3) := by decide +kernel
theorem dX7_goDefine_49 : decode cX7_goDefine 49 = .ok (.iconst 5, 1) := by decide +kernel
theorem dX7_goDefine_50 : decode cX7_goDefine 50 = .ok (.iconst 3, 1) := by decide +kernel
theorem dX7_goDefine_51 : decode cX7_goDefine 51 = .ok (.iload_n 1, 1) := by decide +kernel
theorem dX7_goDefine_52 : decode cX7_goDefine 52 = .ok (.imul, 1) := by decide +kernel
theorem dX7_goDefine_53 : decode cX7_goDefine 53 = .ok (.iadd, 1) := by decide +kernel
theorem dX7_goDefine_54 : decode cX7_goDefine 54 = .ok (.iload_n 2, 1) := by decide +kernel
theorem dX7_goDefine_55 : decode cX7_goDefine 55 = .ok (.iastore, 1) := by decide +kernel
theorem dX7_goDefine_56 : decode cX7_goDefine 56 = .ok (.aload_n 0, 1) := by decide +kernel
theorem dX7_goDefine_57 : decode cX7_goDefine 57 = .ok (.getfield 7, 3) := by decide +kernel
theorem dX7_goDefine_60 : decode cX7_goDefine 60 = .ok (.iconst 5, 1) := by decide +kernel
theorem dX7_goDefine_61 : decode cX7_goDefine 61 = .ok (.iconst 3, 1) := by decide +kernel
theorem dX7_goDefine_62 : decode cX7_goDefine 62 = .ok (.iload_n 1, 1) := by decide +kernel
theorem dX7_goDefine_63 : decode cX7_goDefine 63 = .ok (.imul, 1) := by decide +kernel
theorem dX7_goDefine_64 : decode cX7_goDefine 64 = .ok (.iadd, 1) := by decide +kernel
theorem dX7_goDefine_65 : decode cX7_goDefine 65 = .ok (.iconst 1, 1) := by decide +kernel
theorem dX7_goDefine_66 : decode cX7_goDefine 66 = .ok (.iadd, 1) := by decide +kernel
theorem dX7_goDefine_67 : decode cX7_goDefine 67 = .ok (.iload_n 3, 1) := by decide +kernel
theorem dX7_goDefine_68 : decode cX7_goDefine 68 = .ok (.iastore, 1) := by decide +kernel
theorem dX7_goDefine_69 : decode cX7_goDefine 69 = .ok (.aload_n 0, 1) := by decide +kernel
theorem dX7_goDefine_70 : decode cX7_goDefine 70 = .ok (.getfield 7, 3) := by decide +kernel
theorem dX7_goDefine_73 : decode cX7_goDefine 73 = .ok (.iconst 5, 1) := by decide +kernel
theorem dX7_goDefine_74 : decode cX7_goDefine 74 = .ok (.iconst 3, 1) := by decide +kernel
theorem dX7_goDefine_75 : decode cX7_goDefine 75 = .ok (.iload_n 1, 1) := by decide +kernel
theorem dX7_goDefine_76 : decode cX7_goDefine 76 = .ok (.imul, 1) := by decide +kernel
theorem dX7_goDefine_77 : decode cX7_goDefine 77 = .ok (.iadd, 1) := by decide +kernel
theorem dX7_goDefine_78 : decode cX7_goDefine 78 = .ok (.iconst 2, 1) := by decide +kernel
theorem dX7_goDefine_79 : decode cX7_goDefine 79 = .ok (.iadd, 1) := by decide +kernel
theorem dX7_goDefine_80 : decode cX7_goDefine 80 = .ok (.iload 4, 2) := by decide +kernel
theorem dX7_goDefine_82 : decode cX7_goDefine 82 = .ok (.iastore, 1) := by decide +kernel
theorem dX7_goDefine_83 : decode cX7_goDefine 83 = .ok (.iload 5, 2) := by decide +kernel
theorem dX7_goDefine_85 : decode cX7_goDefine 85 = .ok (.ireturn, 1) := by decide +kernel
theorem dX7_isIn_0 : decode cX7_isIn 0 = .ok (.aload_n 0, 1) := by decide +kernel
theorem dX7_isIn_1 : decode cX7_isIn 1 = .ok (.getfield 7, 3) := by decide +kernel
theorem dX7_isIn_4 : decode cX7_isIn 4 = .ok (.bipush 23, 2) := by decide +kernel
theorem dX7_isIn_6 : decode cX7_isIn 6 = .ok (.iconst 4, 1) := by decide +kernel
theorem dX7_isIn_7 : decode cX7_isIn 7 = .ok (.iload_n 1, 1) := by decide +kernel
theorem dX7_isIn_8 : decode cX7_isIn 8 = .ok (.imul, 1) := by decide +kernel
theorem dX7_isIn_9 : decode cX7_isIn 9 = .ok (.iadd, 1) := by decide +kernel
theorem dX7_isIn_10 : decode cX7_isIn 10 = .ok (.iload_n 2, 1) := by decide +kernel
theorem dX7_isIn_11 : decode cX7_isIn 11 = .ok (.bipush 30, 2) := by decide +kernel
theorem dX7_isIn_13 : decode cX7_isIn 13 = .ok (.idiv, 1) := by decide +kernel
theorem dX7_isIn_14 : decode cX7_isIn 14 = .ok (.iadd, 1) := by decide +kernel
theorem dX7_isIn_15 : decode cX7_isIn 15 = .ok (.iaload, 1) := by decide +kernel
theorem dX7_isIn_16 : decode cX7_isIn 16 = .ok (.iload_n 2, 1) := by decide +kernel
theorem dX7_isIn_17 : decode cX7_isIn 17 = .ok (.bipush 30, 2) := by decide +kernel
theorem dX7_isIn_19 : decode cX7_isIn 19 = .ok (.irem, 1) := by decide +kernel
theorem dX7_isIn_20 : decode cX7_isIn 20 = .ok (.ishr, 1) := by decide +kernel
theorem dX7_isIn_21 : decode cX7_isIn 21 = .ok (.iconst 1, 1) := by decide +kernel
theorem dX7_isIn_22 : decode cX7_isIn 22 = .ok (.iand, 1) := by decide +kernel
theorem dX7_isIn_23 : decode cX7_isIn 23 = .ok (.iconst 1, 1) := by decide +kernel
theorem dX7_isIn_24 : decode cX7_isIn 24 = .ok (.if_icmp .ne 7, 3) := by decide +kernel
theorem dX7_isIn_27 : decode cX7_isIn 27 = .ok (.iconst 1, 1) := by decide +kernel
theorem dX7_isIn_28 : decode cX7_isIn 28 = .ok (.goto 4, 3) := by decide +kernel
theorem dX7_isIn_31 : decode cX7_isIn 31 = .ok (.iconst 0, 1) := by decide +kernel
theorem dX7_isIn_32 : decode cX7_isIn 32 = .ok (.ireturn, 1) := by decide +kernel
theorem dX7_sizeOf_0 : decode cX7_sizeOf 0 = .ok (.iconst 0, 1) := by decide +kernel
theorem dX7_sizeOf_1 : decode cX7_sizeOf 1 = .ok (.istore_n 2, 1) := by decide +kernel
theorem dX7_sizeOf_2 : decode cX7_sizeOf 2 = .ok (.iconst 0, 1) := by decide +kernel
theorem dX7_sizeOf_3 : decode cX7_sizeOf 3 = .ok (.istore_n 3, 1) := by decide +kernel
theorem dX7_sizeOf_4 : decode cX7_sizeOf 4 = .ok (.iload_n 3, 1) := by decide +kernel
theorem dX7_sizeOf_5 : decode cX7_sizeOf 5 = .ok (.bipush 100, 2) := by decide +kernel
theorem dX7_sizeOf_7 : decode cX7_sizeOf 7 = .ok (.if_icmp .ge 26, 3) := by decide +kernel
theorem dX7_sizeOf_10 : decode cX7_sizeOf 10 = .ok (.iload_n 2, 1) := by decide +kernel
theorem dX7_sizeOf_11 : decode cX7_sizeOf 11 = .ok (.aload_n 0, 1) := by decide +kernel
theorem dX7_sizeOf_12 : decode cX7_sizeOf 12 = .ok (.iload_n 1, 1) := by decide +kernel
theorem dX7_sizeOf_13 : decode cX7_sizeOf 13 = .ok (.iload_n 3, 1) := by decide +kernel
theorem dX7_sizeOf_14 : decode cX7_sizeOf 14 = .ok (.invokevirtual 218, 3) := by decide +kernel
theorem dX7_sizeOf_17 : decode cX7_sizeOf 17 = .ok (.ifCond .eq 7, 3) := by decide +kernel
theorem dX7_sizeOf_20 : decode cX7_sizeOf 20 = .ok (.iconst 1, 1) := by decide +kernel
theorem dX7_sizeOf_21 : decode cX7_sizeOf 21 = .ok (.goto 4, 3) := by decide +kernel
theorem dX7_sizeOf_24 : decode cX7_sizeOf 24 = .ok (.iconst 0, 1) := by decide +kernel
theorem dX7_sizeOf_25 : decode cX7_sizeOf 25 = .ok (.iadd, 1) := by decide +kernel
theorem dX7_sizeOf_26 : decode cX7_sizeOf 26 = .ok (.istore_n 2, 1) := by decide +kernel
theorem dX7_sizeOf_27 : decode cX7_sizeOf 27 = .ok (.iinc 3 1, 3) := by decide +kernel
theorem dX7_sizeOf_30 : decode cX7_sizeOf 30 = .ok (.goto (-26), 3) := by decide +kernel
theorem dX7_sizeOf_33 : decode cX7_sizeOf 33 = .ok (.iload_n 2, 1) := by decide +kernel
theorem dX7_sizeOf_34 : decode cX7_sizeOf 34 = .ok (.ireturn, 1) := by decide +kernel
theorem dX7_laysIn_0 : decode cX7_laysIn 0 = .ok (.bipush 23, 2) := by decide +kernel
theorem dX7_laysIn_2 : decode cX7_laysIn 2 = .ok (.iconst 4, 1) := by decide +kernel
theorem dX7_laysIn_3 : decode cX7_laysIn 3 = .ok (.iload_n 1, 1) := by decide +kernel
theorem dX7_laysIn_4 : decode cX7_laysIn 4 = .ok (.imul, 1) := by decide +kernel
theorem dX7_laysIn_5 : decode cX7_laysIn 5 = .ok (.iadd, 1) := by decide +kernel
theorem dX7_laysIn_6 : decode cX7_laysIn 6 = .ok (.iload_n 2, 1) := by decide +kernel
theorem dX7_laysIn_7 : decode cX7_laysIn 7 = .ok (.bipush 30, 2) := by decide +kernel
theorem dX7_laysIn_9 : decode cX7_laysIn 9 = .ok (.idiv, 1) := by decide +kernel
theorem dX7_laysIn_10 : decode cX7_laysIn 10 = .ok (.iadd, 1) := by decide +kernel
theorem dX7_laysIn_11 : decode cX7_laysIn 11 = .ok (.istore 4, 2) := by decide +kernel
theorem dX7_laysIn_13 : decode cX7_laysIn 13 = .ok (.aload_n 0, 1) := by decide +kernel
theorem dX7_laysIn_14 : decode cX7_laysIn 14 = .ok (.getfield 7, 3) := by decide +kernel
theorem dX7_laysIn_17 : decode cX7_laysIn 17 = .ok (.iload 4, 2) := by decide +kernel
theorem dX7_laysIn_19 : decode cX7_laysIn 19 = .ok (.aload_n 0, 1) := by decide +kernel
theorem dX7_laysIn_20 : decode cX7_laysIn 20 = .ok (.getfield 7, 3) := by decide +kernel
theorem dX7_laysIn_23 : decode cX7_laysIn 23 = .ok (.iload 4, 2) := by decide +kernel
theorem dX7_laysIn_25 : decode cX7_laysIn 25 = .ok (.iaload, 1) := by decide +kernel
theorem dX7_laysIn_26 : decode cX7_laysIn 26 = .ok (.iconst 1, 1) := by decide +kernel
theorem dX7_laysIn_27 : decode cX7_laysIn 27 = .ok (.iload_n 2, 1) := by decide +kernel
theorem dX7_laysIn_28 : decode cX7_laysIn 28 = .ok (.bipush 30, 2) := by decide +kernel
theorem dX7_laysIn_30 : decode cX7_laysIn 30 = .ok (.irem, 1) := by decide +kernel
theorem dX7_laysIn_31 : decode cX7_laysIn 31 = .ok (.ishl, 1) := by decide +kernel
theorem dX7_laysIn_32 : decode cX7_laysIn 32 = .ok (.iconst (-1), 1) := by decide +kernel
theorem dX7_laysIn_33 : decode cX7_laysIn 33 = .ok (.ixor, 1) := by decide +kernel
theorem dX7_laysIn_34 : decode cX7_laysIn 34 = .ok (.iand, 1) := by decide +kernel
theorem dX7_laysIn_35 : decode cX7_laysIn 35 = .ok (.iload_n 3, 1) := by decide +kernel
theorem dX7_laysIn_36 : decode cX7_laysIn 36 = .ok (.ifCond .eq 12, 3) := by decide +kernel
theorem dX7_laysIn_39 : decode cX7_laysIn 39 = .ok (.iconst 1, 1) := by decide +kernel
theorem dX7_laysIn_40 : decode cX7_laysIn 40 = .ok (.iload_n 2, 1) := by decide +kernel
theorem dX7_laysIn_41 : decode cX7_laysIn 41 = .ok (.bipush 30, 2) := by decide +kernel
theorem dX7_laysIn_43 : decode cX7_laysIn 43 = .ok (.irem, 1) := by decide +kernel
theorem dX7_laysIn_44 : decode cX7_laysIn 44 = .ok (.ishl, 1) := by decide +kernel
theorem dX7_laysIn_45 : decode cX7_laysIn 45 = .ok (.goto 4, 3) := by decide +kernel
theorem dX7_laysIn_48 : decode cX7_laysIn 48 = .ok (.iconst 0, 1) := by decide +kernel
theorem dX7_laysIn_49 : decode cX7_laysIn 49 = .ok (.ior, 1) := by decide +kernel
theorem dX7_laysIn_50 : decode cX7_laysIn 50 = .ok (.iastore, 1) := by decide +kernel
theorem dX7_laysIn_51 : decode cX7_laysIn 51 = .ok (.return_, 1) := by decide +kernel
theorem dX7_passes_0 : decode cX7_passes 0 = .ok (.iload_n 1, 1) := by decide +kernel
theorem dX7_passes_1 : decode cX7_passes 1 = .ok (.ifCond .ne 16, 3) := by decide +kernel
theorem dX7_passes_4 : decode cX7_passes 4 = .ok (.iload_n 0, 1) := by decide +kernel
theorem dX7_passes_5 : decode cX7_passes 5 = .ok (.iload_n 2, 1) := by decide +kernel
theorem dX7_passes_6 : decode cX7_passes 6 = .ok (.if_icmp .ge 7, 3) := by decide +kernel
theorem dX7_passes_9 : decode cX7_passes 9 = .ok (.iconst 1, 1) := by decide +kernel
theorem dX7_passes_10 : decode cX7_passes 10 = .ok (.goto 35, 3) := by decide +kernel
theorem dX7_passes_13 : decode cX7_passes 13 = .ok (.iconst 0, 1) := by decide +kernel
theorem dX7_passes_14 : decode cX7_passes 14 = .ok (.goto 31, 3) := by decide +kernel
theorem dX7_passes_17 : decode cX7_passes 17 = .ok (.iload_n 1, 1) := by decide +kernel
theorem dX7_passes_18 : decode cX7_passes 18 = .ok (.iconst 1, 1) := by decide +kernel
theorem dX7_passes_19 : decode cX7_passes 19 = .ok (.if_icmp .ne 16, 3) := by decide +kernel
theorem dX7_passes_22 : decode cX7_passes 22 = .ok (.iload_n 0, 1) := by decide +kernel
theorem dX7_passes_23 : decode cX7_passes 23 = .ok (.iload_n 2, 1) := by decide +kernel
theorem dX7_passes_24 : decode cX7_passes 24 = .ok (.if_icmp .ne 7, 3) := by decide +kernel
theorem dX7_passes_27 : decode cX7_passes 27 = .ok (.iconst 1, 1) := by decide +kernel
theorem dX7_passes_28 : decode cX7_passes 28 = .ok (.goto 17, 3) := by decide +kernel
theorem dX7_passes_31 : decode cX7_passes 31 = .ok (.iconst 0, 1) := by decide +kernel
theorem dX7_passes_32 : decode cX7_passes 32 = .ok (.goto 13, 3) := by decide +kernel
theorem dX7_passes_35 : decode cX7_passes 35 = .ok (.iload_n 0, 1) := by decide +kernel
theorem dX7_passes_36 : decode cX7_passes 36 = .ok (.iload_n 2, 1) := by decide +kernel
theorem dX7_passes_37 : decode cX7_passes 37 = .ok (.if_icmp .le 7, 3) := by decide +kernel
theorem dX7_passes_40 : decode cX7_passes 40 = .ok (.iconst 1, 1) := by decide +kernel
theorem dX7_passes_41 : decode cX7_passes 41 = .ok (.goto 4, 3) := by decide +kernel
theorem dX7_passes_44 : decode cX7_passes 44 = .ok (.iconst 0, 1) := by decide +kernel
theorem dX7_passes_45 : decode cX7_passes 45 = .ok (.ireturn, 1) := by decide +kernel
theorem dX7_isSelected_0 : decode cX7_isSelected 0 = .ok (.aload_n 0, 1) := by decide +kernel
theorem dX7_isSelected_1 : decode cX7_isSelected 1 = .ok (.iload_n 1, 1) := by decide +kernel
end
section
theorem dX7_isSelected_2 : decode cX7_isSelected 2 = .ok (.iload_n 2, 1) := by decide +kernel
theorem dX7_isSelected_3 : decode cX7_isSelected 3 = .ok (.invokevirtual 221, 3) := by decide +kernel
theorem dX7_isSelected_6 : decode cX7_isSelected 6 = .ok (.istore 6, 2) := by decide +kernel
theorem dX7_isSelected_8 : decode cX7_isSelected 8 = .ok (.iconst 0, 1) := by decide +kernel
theorem dX7_isSelected_9 : decode cX7_isSelected 9 = .ok (.istore 7, 2) := by decide +kernel
theorem dX7_isSelected_11 : decode cX7_isSelected 11 = .ok (.iconst 0, 1) := by decide +kernel
theorem dX7_isSelected_12 : decode cX7_isSelected 12 = .ok (.istore 8, 2) := by decide +kernel
theorem dX7_isSelected_14 : decode cX7_isSelected 14 = .ok (.iload 8, 2) := by decide +kernel
theorem dX7_isSelected_16 : decode cX7_isSelected 16 = .ok (.iload 6, 2) := by decide +kernel
theorem dX7_isSelected_18 : decode cX7_isSelected 18 = .ok (.if_icmp .ge 35, 3) := by decide +kernel
theorem dX7_isSelected_21 : decode cX7_isSelected 21 = .ok (.iload 7, 2) := by decide +kernel
theorem dX7_isSelected_23 : decode cX7_isSelected 23 = .ok (.aload_n 0, 1) := by decide +kernel
theorem dX7_isSelected_24 : decode cX7_isSelected 24 = .ok (.getfield 25, 3) := by decide +kernel
theorem dX7_isSelected_27 : decode cX7_isSelected 27 = .ok (.iload 8, 2) := by decide +kernel
theorem dX7_isSelected_29 : decode cX7_isSelected 29 = .ok (.iaload, 1) := by decide +kernel
theorem dX7_isSelected_30 : decode cX7_isSelected 30 = .ok (.iload_n 3, 1) := by decide +kernel
theorem dX7_isSelected_31 : decode cX7_isSelected 31 = .ok (.iload 4, 2) := by decide +kernel
theorem dX7_isSelected_33 : decode cX7_isSelected 33 = .ok (.invokestatic 224, 3) := by decide +kernel
theorem dX7_isSelected_36 : decode cX7_isSelected 36 = .ok (.ifCond .eq 7, 3) := by decide +kernel
theorem dX7_isSelected_39 : decode cX7_isSelected 39 = .ok (.iconst 1, 1) := by decide +kernel
theorem dX7_isSelected_40 : decode cX7_isSelected 40 = .ok (.goto 4, 3) := by decide +kernel
theorem dX7_isSelected_43 : decode cX7_isSelected 43 = .ok (.iconst 0, 1) := by decide +kernel
theorem dX7_isSelected_44 : decode cX7_isSelected 44 = .ok (.iadd, 1) := by decide +kernel
theorem dX7_isSelected_45 : decode cX7_isSelected 45 = .ok (.istore 7, 2) := by decide +kernel
theorem dX7_isSelected_47 : decode cX7_isSelected 47 = .ok (.iinc 8 1, 3) := by decide +kernel
theorem dX7_isSelected_50 : decode cX7_isSelected 50 = .ok (.goto (-36), 3) := by decide +kernel
theorem dX7_isSelected_53 : decode cX7_isSelected 53 = .ok (.iload 5, 2) := by decide +kernel
theorem dX7_isSelected_55 : decode cX7_isSelected 55 = .ok (.ifCond .eq 23, 3) := by decide +kernel
theorem dX7_isSelected_58 : decode cX7_isSelected 58 = .ok (.iload 6, 2) := by decide +kernel
theorem dX7_isSelected_60 : decode cX7_isSelected 60 = .ok (.ifCond .le 14, 3) := by decide +kernel
theorem dX7_isSelected_63 : decode cX7_isSelected 63 = .ok (.iload 7, 2) := by decide +kernel
theorem dX7_isSelected_65 : decode cX7_isSelected 65 = .ok (.iload 6, 2) := by decide +kernel
theorem dX7_isSelected_67 : decode cX7_isSelected 67 = .ok (.if_icmp .ne 7, 3) := by decide +kernel
theorem dX7_isSelected_70 : decode cX7_isSelected 70 = .ok (.iconst 1, 1) := by decide +kernel
theorem dX7_isSelected_71 : decode cX7_isSelected 71 = .ok (.goto 17, 3) := by decide +kernel
theorem dX7_isSelected_74 : decode cX7_isSelected 74 = .ok (.iconst 0, 1) := by decide +kernel
theorem dX7_isSelected_75 : decode cX7_isSelected 75 = .ok (.goto 13, 3) := by decide +kernel
theorem dX7_isSelected_78 : decode cX7_isSelected 78 = .ok (.iload 7, 2) := by decide +kernel
theorem dX7_isSelected_80 : decode cX7_isSelected 80 = .ok (.ifCond .le 7, 3) := by decide +kernel
theorem dX7_isSelected_83 : decode cX7_isSelected 83 = .ok (.iconst 1, 1) := by decide +kernel
theorem dX7_isSelected_84 : decode cX7_isSelected 84 = .ok (.goto 4, 3) := by decide +kernel
theorem dX7_isSelected_87 : decode cX7_isSelected 87 = .ok (.iconst 0, 1) := by decide +kernel
theorem dX7_isSelected_88 : decode cX7_isSelected 88 = .ok (.ireturn, 1) := by decide +kernel
theorem dX7_goSelect_0 : decode cX7_goSelect 0 = .ok (.iload_n 1, 1) := by decide +kernel
theorem dX7_goSelect_1 : decode cX7_goSelect 1 = .ok (.invokestatic 215, 3) := by decide +kernel
theorem dX7_goSelect_4 : decode cX7_goSelect 4 = .ok (.ifCond .eq 11, 3) := by decide +kernel
theorem dX7_goSelect_7 : decode cX7_goSelect 7 = .ok (.iload 5, 2) := by decide +kernel
theorem dX7_goSelect_9 : decode cX7_goSelect 9 = .ok (.invokestatic 227, 3) := by decide +kernel
theorem dX7_goSelect_12 : decode cX7_goSelect 12 = .ok (.ifCond .ne 6, 3) := by decide +kernel
theorem dX7_goSelect_15 : decode cX7_goSelect 15 = .ok (.ldc 41, 2) := by decide +kernel
theorem dX7_goSelect_17 : decode cX7_goSelect 17 = .ok (.ireturn, 1) := by decide +kernel
theorem dX7_goSelect_18 : decode cX7_goSelect 18 = .ok (.iload_n 2, 1) := by decide +kernel
theorem dX7_goSelect_19 : decode cX7_goSelect 19 = .ok (.iconst 0, 1) := by decide +kernel
theorem dX7_goSelect_20 : decode cX7_goSelect 20 = .ok (.iconst 2, 1) := by decide +kernel
theorem dX7_goSelect_21 : decode cX7_goSelect 21 = .ok (.invokestatic 50, 3) := by decide +kernel
theorem dX7_goSelect_24 : decode cX7_goSelect 24 = .ok (.ifCond .eq 14, 3) := by decide +kernel
theorem dX7_goSelect_27 : decode cX7_goSelect 27 = .ok (.iload_n 3, 1) := by decide +kernel
theorem dX7_goSelect_28 : decode cX7_goSelect 28 = .ok (.ldc 230, 2) := by decide +kernel
theorem dX7_goSelect_30 : decode cX7_goSelect 30 = .ok (.ldc 231, 2) := by decide +kernel
theorem dX7_goSelect_32 : decode cX7_goSelect 32 = .ok (.invokestatic 50, 3) := by decide +kernel
theorem dX7_goSelect_35 : decode cX7_goSelect 35 = .ok (.ifCond .ne 6, 3) := by decide +kernel
theorem dX7_goSelect_38 : decode cX7_goSelect 38 = .ok (.ldc 85, 2) := by decide +kernel
theorem dX7_goSelect_40 : decode cX7_goSelect 40 = .ok (.ireturn, 1) := by decide +kernel
theorem dX7_goSelect_41 : decode cX7_goSelect 41 = .ok (.iconst 0, 1) := by decide +kernel
theorem dX7_goSelect_42 : decode cX7_goSelect 42 = .ok (.istore 6, 2) := by decide +kernel
theorem dX7_goSelect_44 : decode cX7_goSelect 44 = .ok (.iload 6, 2) := by decide +kernel
theorem dX7_goSelect_46 : decode cX7_goSelect 46 = .ok (.bipush 100, 2) := by decide +kernel
theorem dX7_goSelect_48 : decode cX7_goSelect 48 = .ok (.if_icmp .ge 49, 3) := by decide +kernel
theorem dX7_goSelect_51 : decode cX7_goSelect 51 = .ok (.aload_n 0, 1) := by decide +kernel
theorem dX7_goSelect_52 : decode cX7_goSelect 52 = .ok (.iload 6, 2) := by decide +kernel
theorem dX7_goSelect_54 : decode cX7_goSelect 54 = .ok (.invokevirtual 86, 3) := by decide +kernel
theorem dX7_goSelect_57 : decode cX7_goSelect 57 = .ok (.istore 7, 2) := by decide +kernel
theorem dX7_goSelect_59 : decode cX7_goSelect 59 = .ok (.aload_n 0, 1) := by decide +kernel
theorem dX7_goSelect_60 : decode cX7_goSelect 60 = .ok (.iload 5, 2) := by decide +kernel
theorem dX7_goSelect_62 : decode cX7_goSelect 62 = .ok (.iload 6, 2) := by decide +kernel
theorem dX7_goSelect_64 : decode cX7_goSelect 64 = .ok (.iload 7, 2) := by decide +kernel
theorem dX7_goSelect_66 : decode cX7_goSelect 66 = .ok (.ifCond .lt 21, 3) := by decide +kernel
theorem dX7_goSelect_69 : decode cX7_goSelect 69 = .ok (.aload_n 0, 1) := by decide +kernel
theorem dX7_goSelect_70 : decode cX7_goSelect 70 = .ok (.iload 7, 2) := by decide +kernel
theorem dX7_goSelect_72 : decode cX7_goSelect 72 = .ok (.iload_n 1, 1) := by decide +kernel
theorem dX7_goSelect_73 : decode cX7_goSelect 73 = .ok (.iload_n 2, 1) := by decide +kernel
theorem dX7_goSelect_74 : decode cX7_goSelect 74 = .ok (.iload_n 3, 1) := by decide +kernel
theorem dX7_goSelect_75 : decode cX7_goSelect 75 = .ok (.iload 4, 2) := by decide +kernel
theorem dX7_goSelect_77 : decode cX7_goSelect 77 = .ok (.invokevirtual 232, 3) := by decide +kernel
theorem dX7_goSelect_80 : decode cX7_goSelect 80 = .ok (.ifCond .eq 7, 3) := by decide +kernel
theorem dX7_goSelect_83 : decode cX7_goSelect 83 = .ok (.iconst 1, 1) := by decide +kernel
theorem dX7_goSelect_84 : decode cX7_goSelect 84 = .ok (.goto 4, 3) := by decide +kernel
theorem dX7_goSelect_87 : decode cX7_goSelect 87 = .ok (.iconst 0, 1) := by decide +kernel
theorem dX7_goSelect_88 : decode cX7_goSelect 88 = .ok (.invokevirtual 236, 3) := by decide +kernel
theorem dX7_goSelect_91 : decode cX7_goSelect 91 = .ok (.iinc 6 1, 3) := by decide +kernel
theorem dX7_goSelect_94 : decode cX7_goSelect 94 = .ok (.goto (-50), 3) := by decide +kernel
theorem dX7_goSelect_97 : decode cX7_goSelect 97 = .ok (.aload_n 0, 1) := by decide +kernel
theorem dX7_goSelect_98 : decode cX7_goSelect 98 = .ok (.iload 5, 2) := by decide +kernel
theorem dX7_goSelect_100 : decode cX7_goSelect 100 = .ok (.invokevirtual 240, 3) := by decide +kernel
theorem dX7_goSelect_103 : decode cX7_goSelect 103 = .ok (.ireturn, 1) := by decide +kernel
theorem dX7_goCombine_0 : decode cX7_goCombine 0 = .ok (.iload_n 2, 1) := by decide +kernel
theorem dX7_goCombine_1 : decode cX7_goCombine 1 = .ok (.invokestatic 227, 3) := by decide +kernel
theorem dX7_goCombine_4 : decode cX7_goCombine 4 = .ok (.ifCond .eq 18, 3) := by decide +kernel
theorem dX7_goCombine_7 : decode cX7_goCombine 7 = .ok (.iload_n 3, 1) := by decide +kernel
theorem dX7_goCombine_8 : decode cX7_goCombine 8 = .ok (.invokestatic 227, 3) := by decide +kernel
theorem dX7_goCombine_11 : decode cX7_goCombine 11 = .ok (.ifCond .eq 11, 3) := by decide +kernel
theorem dX7_goCombine_14 : decode cX7_goCombine 14 = .ok (.iload 4, 2) := by decide +kernel
theorem dX7_goCombine_16 : decode cX7_goCombine 16 = .ok (.invokestatic 227, 3) := by decide +kernel
theorem dX7_goCombine_19 : decode cX7_goCombine 19 = .ok (.ifCond .ne 6, 3) := by decide +kernel
theorem dX7_goCombine_22 : decode cX7_goCombine 22 = .ok (.ldc 41, 2) := by decide +kernel
theorem dX7_goCombine_24 : decode cX7_goCombine 24 = .ok (.ireturn, 1) := by decide +kernel
theorem dX7_goCombine_25 : decode cX7_goCombine 25 = .ok (.iload_n 1, 1) := by decide +kernel
theorem dX7_goCombine_26 : decode cX7_goCombine 26 = .ok (.iconst 0, 1) := by decide +kernel
theorem dX7_goCombine_27 : decode cX7_goCombine 27 = .ok (.iconst 2, 1) := by decide +kernel
theorem dX7_goCombine_28 : decode cX7_goCombine 28 = .ok (.invokestatic 50, 3) := by decide +kernel
theorem dX7_goCombine_31 : decode cX7_goCombine 31 = .ok (.ifCond .ne 6, 3) := by decide +kernel
theorem dX7_goCombine_34 : decode cX7_goCombine 34 = .ok (.ldc 85, 2) := by decide +kernel
theorem dX7_goCombine_36 : decode cX7_goCombine 36 = .ok (.ireturn, 1) := by decide +kernel
theorem dX7_goCombine_37 : decode cX7_goCombine 37 = .ok (.iconst 0, 1) := by decide +kernel
theorem dX7_goCombine_38 : decode cX7_goCombine 38 = .ok (.istore 5, 2) := by decide +kernel
theorem dX7_goCombine_40 : decode cX7_goCombine 40 = .ok (.iload 5, 2) := by decide +kernel
theorem dX7_goCombine_42 : decode cX7_goCombine 42 = .ok (.bipush 100, 2) := by decide +kernel
theorem dX7_goCombine_44 : decode cX7_goCombine 44 = .ok (.if_icmp .ge 95, 3) := by decide +kernel
theorem dX7_goCombine_47 : decode cX7_goCombine 47 = .ok (.aload_n 0, 1) := by decide +kernel
theorem dX7_goCombine_48 : decode cX7_goCombine 48 = .ok (.iload_n 2, 1) := by decide +kernel
theorem dX7_goCombine_49 : decode cX7_goCombine 49 = .ok (.iload 5, 2) := by decide +kernel
theorem dX7_goCombine_51 : decode cX7_goCombine 51 = .ok (.invokevirtual 218, 3) := by decide +kernel
theorem dX7_goCombine_54 : decode cX7_goCombine 54 = .ok (.istore 6, 2) := by decide +kernel
theorem dX7_goCombine_56 : decode cX7_goCombine 56 = .ok (.aload_n 0, 1) := by decide +kernel
theorem dX7_goCombine_57 : decode cX7_goCombine 57 = .ok (.iload_n 3, 1) := by decide +kernel
theorem dX7_goCombine_58 : decode cX7_goCombine 58 = .ok (.iload 5, 2) := by decide +kernel
theorem dX7_goCombine_60 : decode cX7_goCombine 60 = .ok (.invokevirtual 218, 3) := by decide +kernel
theorem dX7_goCombine_63 : decode cX7_goCombine 63 = .ok (.istore 7, 2) := by decide +kernel
theorem dX7_goCombine_65 : decode cX7_goCombine 65 = .ok (.aload_n 0, 1) := by decide +kernel
theorem dX7_goCombine_66 : decode cX7_goCombine 66 = .ok (.iload 4, 2) := by decide +kernel
theorem dX7_goCombine_68 : decode cX7_goCombine 68 = .ok (.iload 5, 2) := by decide +kernel
theorem dX7_goCombine_70 : decode cX7_goCombine 70 = .ok (.iload_n 1, 1) := by decide +kernel
theorem dX7_goCombine_71 : decode cX7_goCombine 71 = .ok (.ifCond .ne 21, 3) := by decide +kernel
theorem dX7_goCombine_74 : decode cX7_goCombine 74 = .ok (.iload 6, 2) := by decide +kernel
theorem dX7_goCombine_76 : decode cX7_goCombine 76 = .ok (.ifCond .eq 12, 3) := by decide +kernel
theorem dX7_goCombine_79 : decode cX7_goCombine 79 = .ok (.iload 7, 2) := by decide +kernel
theorem dX7_goCombine_81 : decode cX7_goCombine 81 = .ok (.ifCond .eq 7, 3) := by decide +kernel
theorem dX7_goCombine_84 : decode cX7_goCombine 84 = .ok (.iconst 1, 1) := by decide +kernel
theorem dX7_goCombine_85 : decode cX7_goCombine 85 = .ok (.goto 45, 3) := by decide +kernel
theorem dX7_goCombine_88 : decode cX7_goCombine 88 = .ok (.iconst 0, 1) := by decide +kernel
theorem dX7_goCombine_89 : decode cX7_goCombine 89 = .ok (.goto 41, 3) := by decide +kernel
theorem dX7_goCombine_92 : decode cX7_goCombine 92 = .ok (.iload_n 1, 1) := by decide +kernel
theorem dX7_goCombine_93 : decode cX7_goCombine 93 = .ok (.iconst 1, 1) := by decide +kernel
theorem dX7_goCombine_94 : decode cX7_goCombine 94 = .ok (.if_icmp .ne 21, 3) := by decide +kernel
theorem dX7_goCombine_97 : decode cX7_goCombine 97 = .ok (.iload 6, 2) := by decide +kernel
theorem dX7_goCombine_99 : decode cX7_goCombine 99 = .ok (.ifCond .ne 8, 3) := by decide +kernel
theorem dX7_goCombine_102 : decode cX7_goCombine 102 = .ok (.iload 7, 2) := by decide +kernel
theorem dX7_goCombine_104 : decode cX7_goCombine 104 = .ok (.ifCond .eq 7, 3) := by decide +kernel
theorem dX7_goCombine_107 : decode cX7_goCombine 107 = .ok (.iconst 1, 1) := by decide +kernel
theorem dX7_goCombine_108 : decode cX7_goCombine 108 = .ok (.goto 22, 3) := by decide +kernel
theorem dX7_goCombine_111 : decode cX7_goCombine 111 = .ok (.iconst 0, 1) := by decide +kernel
theorem dX7_goCombine_112 : decode cX7_goCombine 112 = .ok (.goto 18, 3) := by decide +kernel
theorem dX7_goCombine_115 : decode cX7_goCombine 115 = .ok (.iload 6, 2) := by decide +kernel
theorem dX7_goCombine_117 : decode cX7_goCombine 117 = .ok (.ifCond .eq 12, 3) := by decide +kernel
theorem dX7_goCombine_120 : decode cX7_goCombine 120 = .ok (.iload 7, 2) := by decide +kernel
theorem dX7_goCombine_122 : decode cX7_goCombine 122 = .ok (.ifCond .ne 7, 3) := by decide +kernel
theorem dX7_goCombine_125 : decode cX7_goCombine 125 = .ok (.iconst 1, 1) := by decide +kernel
theorem dX7_goCombine_126 : decode cX7_goCombine 126 = .ok (.goto 4, 3) := by decide +kernel
theorem dX7_goCombine_129 : decode cX7_goCombine 129 = .ok (.iconst 0, 1) := by decide +kernel
theorem dX7_goCombine_130 : decode cX7_goCombine 130 = .ok (.invokevirtual 236, 3) := by decide +kernel
theorem dX7_goCombine_133 : decode cX7_goCombine 133 = .ok (.iinc 5 1, 3) := by decide +kernel
theorem dX7_goCombine_136 : decode cX7_goCombine 136 = .ok (.goto (-96), 3) := by decide +kernel
theorem dX7_goCombine_139 : decode cX7_goCombine 139 = .ok (.aload_n 0, 1) := by decide +kernel
theorem dX7_goCombine_140 : decode cX7_goCombine 140 = .ok (.iload 4, 2) := by decide +kernel
theorem dX7_goCombine_142 : decode cX7_goCombine 142 = .ok (.invokevirtual 240, 3) := by decide +kernel
theorem dX7_goCombine_145 : decode cX7_goCombine 145 = .ok (.ireturn, 1) := by decide +kernel
theorem dX7_goClear_0 : decode cX7_goClear 0 = .ok (.iload_n 1, 1) := by decide +kernel
theorem dX7_goClear_1 : decode cX7_goClear 1 = .ok (.invokestatic 227, 3) := by decide +kernel
theorem dX7_goClear_4 : decode cX7_goClear 4 = .ok (.ifCond .ne 6, 3) := by decide +kernel
theorem dX7_goClear_7 : decode cX7_goClear 7 = .ok (.ldc 41, 2) := by decide +kernel
theorem dX7_goClear_9 : decode cX7_goClear 9 = .ok (.ireturn, 1) := by decide +kernel
theorem dX7_goClear_10 : decode cX7_goClear 10 = .ok (.aload_n 0, 1) := by decide +kernel
theorem dX7_goClear_11 : decode cX7_goClear 11 = .ok (.iload_n 1, 1) := by decide +kernel
theorem dX7_goClear_12 : decode cX7_goClear 12 = .ok (.invokevirtual 240, 3) := by decide +kernel
theorem dX7_goClear_15 : decode cX7_goClear 15 = .ok (.istore_n 2, 1) := by decide +kernel
theorem dX7_goClear_16 : decode cX7_goClear 16 = .ok (.iconst 0, 1) := by decide +kernel
theorem dX7_goClear_17 : decode cX7_goClear 17 = .ok (.istore_n 3, 1) := by decide +kernel
theorem dX7_goClear_18 : decode cX7_goClear 18 = .ok (.iload_n 3, 1) := by decide +kernel
theorem dX7_goClear_19 : decode cX7_goClear 19 = .ok (.iconst 4, 1) := by decide +kernel
theorem dX7_goClear_20 : decode cX7_goClear 20 = .ok (.if_icmp .ge 23, 3) := by decide +kernel
theorem dX7_goClear_23 : decode cX7_goClear 23 = .ok (.aload_n 0, 1) := by decide +kernel
theorem dX7_goClear_24 : decode cX7_goClear 24 = .ok (.getfield 7, 3) := by decide +kernel
theorem dX7_goClear_27 : decode cX7_goClear 27 = .ok (.bipush 23, 2) := by decide +kernel
theorem dX7_goClear_29 : decode cX7_goClear 29 = .ok (.iconst 4, 1) := by decide +kernel
theorem dX7_goClear_30 : decode cX7_goClear 30 = .ok (.iload_n 1, 1) := by decide +kernel
theorem dX7_goClear_31 : decode cX7_goClear 31 = .ok (.imul, 1) := by decide +kernel
theorem dX7_goClear_32 : decode cX7_goClear 32 = .ok (.iadd, 1) := by decide +kernel
theorem dX7_goClear_33 : decode cX7_goClear 33 = .ok (.iload_n 3, 1) := by decide +kernel
theorem dX7_goClear_34 : decode cX7_goClear 34 = .ok (.iadd, 1) := by decide +kernel
theorem dX7_goClear_35 : decode cX7_goClear 35 = .ok (.iconst 0, 1) := by decide +kernel
theorem dX7_goClear_36 : decode cX7_goClear 36 = .ok (.iastore, 1) := by decide +kernel
theorem dX7_goClear_37 : decode cX7_goClear 37 = .ok (.iinc 3 1, 3) := by decide +kernel
theorem dX7_goClear_40 : decode cX7_goClear 40 = .ok (.goto (-22), 3) := by decide +kernel
theorem dX7_goClear_43 : decode cX7_goClear 43 = .ok (.iload_n 2, 1) := by decide +kernel
theorem dX7_goClear_44 : decode cX7_goClear 44 = .ok (.ireturn, 1) := by decide +kernel
theorem dX7_associate_0 : decode cX7_associate 0 = .ok (.aload_n 0, 1) := by decide +kernel
theorem dX7_associate_1 : decode cX7_associate 1 = .ok (.invokevirtual 110, 3) := by decide +kernel
theorem dX7_associate_4 : decode cX7_associate 4 = .ok (.aload_n 0, 1) := by decide +kernel
theorem dX7_associate_5 : decode cX7_associate 5 = .ok (.aload_n 0, 1) := by decide +kernel
theorem dX7_associate_6 : decode cX7_associate 6 = .ok (.iload_n 1, 1) := by decide +kernel
theorem dX7_associate_7 : decode cX7_associate 7 = .ok (.iload_n 2, 1) := by decide +kernel
theorem dX7_associate_8 : decode cX7_associate 8 = .ok (.invokevirtual 243, 3) := by decide +kernel
theorem dX7_associate_11 : decode cX7_associate 11 = .ok (.invokevirtual 116, 3) := by decide +kernel
theorem dX7_associate_14 : decode cX7_associate 14 = .ok (.ireturn, 1) := by decide +kernel
theorem dX7_define_0 : decode cX7_define 0 = .ok (.aload_n 0, 1) := by decide +kernel
theorem dX7_define_1 : decode cX7_define 1 = .ok (.invokevirtual 110, 3) := by decide +kernel
theorem dX7_define_4 : decode cX7_define 4 = .ok (.aload_n 0, 1) := by decide +kernel
theorem dX7_define_5 : decode cX7_define 5 = .ok (.aload_n 0, 1) := by decide +kernel
theorem dX7_define_6 : decode cX7_define 6 = .ok (.iload_n 1, 1) := by decide +kernel
theorem dX7_define_7 : decode cX7_define 7 = .ok (.iload_n 2, 1) := by decide +kernel
theorem dX7_define_8 : decode cX7_define 8 = .ok (.iload_n 3, 1) := by decide +kernel
theorem dX7_define_9 : decode cX7_define 9 = .ok (.iload 4, 2) := by decide +kernel
theorem dX7_define_11 : decode cX7_define 11 = .ok (.invokevirtual 247, 3) := by decide +kernel
theorem dX7_define_14 : decode cX7_define 14 = .ok (.invokevirtual 116, 3) := by decide +kernel
theorem dX7_define_17 : decode cX7_define 17 = .ok (.ireturn, 1) := by decide +kernel
theorem dX7_select_0 : decode cX7_select 0 = .ok (.aload_n 0, 1) := by decide +kernel
theorem dX7_select_1 : decode cX7_select 1 = .ok (.invokevirtual 110, 3) := by decide +kernel
theorem dX7_select_4 : decode cX7_select 4 = .ok (.aload_n 0, 1) := by decide +kernel
theorem dX7_select_5 : decode cX7_select 5 = .ok (.aload_n 0, 1) := by decide +kernel
theorem dX7_select_6 : decode cX7_select 6 = .ok (.iload_n 1, 1) := by decide +kernel
theorem dX7_select_7 : decode cX7_select 7 = .ok (.iload_n 2, 1) := by decide +kernel
theorem dX7_select_8 : decode cX7_select 8 = .ok (.iload_n 3, 1) := by decide +kernel
theorem dX7_select_9 : decode cX7_select 9 = .ok (.iload 4, 2) := by decide +kernel
theorem dX7_select_11 : decode cX7_select 11 = .ok (.iload 5, 2) := by decide +kernel
theorem dX7_select_13 : decode cX7_select 13 = .ok (.invokevirtual 250, 3) := by decide +kernel
theorem dX7_select_16 : decode cX7_select 16 = .ok (.invokevirtual 116, 3) := by decide +kernel
theorem dX7_select_19 : decode cX7_select 19 = .ok (.ireturn, 1) := by decide +kernel
theorem dX7_combine_0 : decode cX7_combine 0 = .ok (.aload_n 0, 1) := by decide +kernel
theorem dX7_combine_1 : decode cX7_combine 1 = .ok (.invokevirtual 110, 3) := by decide +kernel
theorem dX7_combine_4 : decode cX7_combine 4 = .ok (.aload_n 0, 1) := by decide +kernel
theorem dX7_combine_5 : decode cX7_combine 5 = .ok (.aload_n 0, 1) := by decide +kernel
theorem dX7_combine_6 : decode cX7_combine 6 = .ok (.iload_n 1, 1) := by decide +kernel
theorem dX7_combine_7 : decode cX7_combine 7 = .ok (.iload_n 2, 1) := by decide +kernel
theorem dX7_combine_8 : decode cX7_combine 8 = .ok (.iload_n 3, 1) := by decide +kernel
theorem dX7_combine_9 : decode cX7_combine 9 = .ok (.iload 4, 2) := by decide +kernel
theorem dX7_combine_11 : decode cX7_combine 11 = .ok (.invokevirtual 254, 3) := by decide +kernel
theorem dX7_combine_14 : decode cX7_combine 14 = .ok (.invokevirtual 116, 3) := by decide +kernel
theorem dX7_combine_17 : decode cX7_combine 17 = .ok (.ireturn, 1) := by decide +kernel
theorem dX7_clearList_0 : decode cX7_clearList 0 = .ok (.aload_n 0, 1) := by decide +kernel
theorem dX7_clearList_1 : decode cX7_clearList 1 = .ok (.invokevirtual 110, 3) := by decide +kernel
theorem dX7_clearList_4 : decode cX7_clearList 4 = .ok (.aload_n 0, 1) := by decide +kernel
theorem dX7_clearList_5 : decode cX7_clearList 5 = .ok (.aload_n 0, 1) := by decide +kernel
theorem dX7_clearList_6 : decode cX7_clearList 6 = .ok (.iload_n 1, 1) := by decide +kernel
theorem dX7_clearList_7 : decode cX7_clearList 7 = .ok (.invokevirtual 257, 3) := by decide +kernel
theorem dX7_clearList_10 : decode cX7_clearList 10 = .ok (.invokevirtual 116, 3) := by decide +kernel
theorem dX7_clearList_13 : decode cX7_clearList 13 = .ok (.ireturn, 1) := by decide +kernel
theorem dX7_records_0 : decode cX7_records 0 = .ok (.aload_n 0, 1) := by decide +kernel
theorem dX7_records_1 : decode cX7_records 1 = .ok (.getfield 7, 3) := by decide +kernel
theorem dX7_records_4 : decode cX7_records 4 = .ok (.iconst 0, 1) := by decide +kernel
theorem dX7_records_5 : decode cX7_records 5 = .ok (.iaload, 1) := by decide +kernel
theorem dX7_records_6 : decode cX7_records 6 = .ok (.ireturn, 1) := by decide +kernel
theorem dX7_recordAt_0 : decode cX7_recordAt 0 = .ok (.iload_n 1, 1) := by decide +kernel
theorem dX7_recordAt_1 : decode cX7_recordAt 1 = .ok (.ifCond .ge 6, 3) := by decide +kernel
theorem dX7_recordAt_4 : decode cX7_recordAt 4 = .ok (.ldc 85, 2) := by decide +kernel
theorem dX7_recordAt_6 : decode cX7_recordAt 6 = .ok (.ireturn, 1) := by decide +kernel
theorem dX7_recordAt_7 : decode cX7_recordAt 7 = .ok (.ldc 176, 2) := by decide +kernel
theorem dX7_recordAt_9 : decode cX7_recordAt 9 = .ok (.istore_n 2, 1) := by decide +kernel
theorem dX7_recordAt_10 : decode cX7_recordAt 10 = .ok (.iconst 0, 1) := by decide +kernel
theorem dX7_recordAt_11 : decode cX7_recordAt 11 = .ok (.istore_n 3, 1) := by decide +kernel
theorem dX7_recordAt_12 : decode cX7_recordAt 12 = .ok (.iload_n 3, 1) := by decide +kernel
theorem dX7_recordAt_13 : decode cX7_recordAt 13 = .ok (.aload_n 0, 1) := by decide +kernel
theorem dX7_recordAt_14 : decode cX7_recordAt 14 = .ok (.getfield 7, 3) := by decide +kernel
theorem dX7_recordAt_17 : decode cX7_recordAt 17 = .ok (.iconst 0, 1) := by decide +kernel
theorem dX7_recordAt_18 : decode cX7_recordAt 18 = .ok (.iaload, 1) := by decide +kernel
theorem dX7_recordAt_19 : decode cX7_recordAt 19 = .ok (.if_icmp .ge 75, 3) := by decide +kernel
theorem dX7_recordAt_22 : decode cX7_recordAt 22 = .ok (.iconst 0, 1) := by decide +kernel
theorem dX7_recordAt_23 : decode cX7_recordAt 23 = .ok (.istore 4, 2) := by decide +kernel
theorem dX7_recordAt_25 : decode cX7_recordAt 25 = .ok (.iconst 0, 1) := by decide +kernel
theorem dX7_recordAt_26 : decode cX7_recordAt 26 = .ok (.istore 5, 2) := by decide +kernel
theorem dX7_recordAt_28 : decode cX7_recordAt 28 = .ok (.iload 5, 2) := by decide +kernel
theorem dX7_recordAt_30 : decode cX7_recordAt 30 = .ok (.aload_n 0, 1) := by decide +kernel
theorem dX7_recordAt_31 : decode cX7_recordAt 31 = .ok (.getfield 7, 3) := by decide +kernel
theorem dX7_recordAt_34 : decode cX7_recordAt 34 = .ok (.iconst 0, 1) := by decide +kernel
theorem dX7_recordAt_35 : decode cX7_recordAt 35 = .ok (.iaload, 1) := by decide +kernel
theorem dX7_recordAt_36 : decode cX7_recordAt 36 = .ok (.if_icmp .ge 35, 3) := by decide +kernel
theorem dX7_recordAt_39 : decode cX7_recordAt 39 = .ok (.iload 4, 2) := by decide +kernel
theorem dX7_recordAt_41 : decode cX7_recordAt 41 = .ok (.aload_n 0, 1) := by decide +kernel
theorem dX7_recordAt_42 : decode cX7_recordAt 42 = .ok (.iload 5, 2) := by decide +kernel
theorem dX7_recordAt_44 : decode cX7_recordAt 44 = .ok (.iconst 0, 1) := by decide +kernel
theorem dX7_recordAt_45 : decode cX7_recordAt 45 = .ok (.invokevirtual 46, 3) := by decide +kernel
theorem dX7_recordAt_48 : decode cX7_recordAt 48 = .ok (.aload_n 0, 1) := by decide +kernel
theorem dX7_recordAt_49 : decode cX7_recordAt 49 = .ok (.iload_n 3, 1) := by decide +kernel
theorem dX7_recordAt_50 : decode cX7_recordAt 50 = .ok (.iconst 0, 1) := by decide +kernel
theorem dX7_recordAt_51 : decode cX7_recordAt 51 = .ok (.invokevirtual 46, 3) := by decide +kernel
theorem dX7_recordAt_54 : decode cX7_recordAt 54 = .ok (.if_icmp .ge 7, 3) := by decide +kernel
theorem dX7_recordAt_57 : decode cX7_recordAt 57 = .ok (.iconst 1, 1) := by decide +kernel
theorem dX7_recordAt_58 : decode cX7_recordAt 58 = .ok (.goto 4, 3) := by decide +kernel
theorem dX7_recordAt_61 : decode cX7_recordAt 61 = .ok (.iconst 0, 1) := by decide +kernel
theorem dX7_recordAt_62 : decode cX7_recordAt 62 = .ok (.iadd, 1) := by decide +kernel
theorem dX7_recordAt_63 : decode cX7_recordAt 63 = .ok (.istore 4, 2) := by decide +kernel
theorem dX7_recordAt_65 : decode cX7_recordAt 65 = .ok (.iinc 5 1, 3) := by decide +kernel
theorem dX7_recordAt_68 : decode cX7_recordAt 68 = .ok (.goto (-40), 3) := by decide +kernel
theorem dX7_recordAt_71 : decode cX7_recordAt 71 = .ok (.iload 4, 2) := by decide +kernel
theorem dX7_recordAt_73 : decode cX7_recordAt 73 = .ok (.iload_n 1, 1) := by decide +kernel
theorem dX7_recordAt_74 : decode cX7_recordAt 74 = .ok (.if_icmp .ne 12, 3) := by decide +kernel
theorem dX7_recordAt_77 : decode cX7_recordAt 77 = .ok (.aload_n 0, 1) := by decide +kernel
theorem dX7_recordAt_78 : decode cX7_recordAt 78 = .ok (.iload_n 3, 1) := by decide +kernel
theorem dX7_recordAt_79 : decode cX7_recordAt 79 = .ok (.iconst 0, 1) := by decide +kernel
theorem dX7_recordAt_80 : decode cX7_recordAt 80 = .ok (.invokevirtual 46, 3) := by decide +kernel
theorem dX7_recordAt_83 : decode cX7_recordAt 83 = .ok (.goto 4, 3) := by decide +kernel
theorem dX7_recordAt_86 : decode cX7_recordAt 86 = .ok (.iload_n 2, 1) := by decide +kernel
theorem dX7_recordAt_87 : decode cX7_recordAt 87 = .ok (.istore_n 2, 1) := by decide +kernel
theorem dX7_recordAt_88 : decode cX7_recordAt 88 = .ok (.iinc 3 1, 3) := by decide +kernel
theorem dX7_recordAt_91 : decode cX7_recordAt 91 = .ok (.goto (-79), 3) := by decide +kernel
theorem dX7_recordAt_94 : decode cX7_recordAt 94 = .ok (.iload_n 2, 1) := by decide +kernel
theorem dX7_recordAt_95 : decode cX7_recordAt 95 = .ok (.ireturn, 1) := by decide +kernel
theorem dX7_locker_0 : decode cX7_locker 0 = .ok (.aload_n 0, 1) := by decide +kernel
theorem dX7_locker_1 : decode cX7_locker 1 = .ok (.iload_n 1, 1) := by decide +kernel
theorem dX7_locker_2 : decode cX7_locker 2 = .ok (.invokevirtual 86, 3) := by decide +kernel
theorem dX7_locker_5 : decode cX7_locker 5 = .ok (.istore_n 2, 1) := by decide +kernel
theorem dX7_locker_6 : decode cX7_locker 6 = .ok (.iload_n 2, 1) := by decide +kernel
theorem dX7_locker_7 : decode cX7_locker 7 = .ok (.ifCond .ge 8, 3) := by decide +kernel
theorem dX7_locker_10 : decode cX7_locker 10 = .ok (.ldc 41, 2) := by decide +kernel
theorem dX7_locker_12 : decode cX7_locker 12 = .ok (.goto 25, 3) := by decide +kernel
theorem dX7_locker_15 : decode cX7_locker 15 = .ok (.aload_n 0, 1) := by decide +kernel
theorem dX7_locker_16 : decode cX7_locker 16 = .ok (.iload_n 2, 1) := by decide +kernel
theorem dX7_locker_17 : decode cX7_locker 17 = .ok (.iconst 1, 1) := by decide +kernel
theorem dX7_locker_18 : decode cX7_locker 18 = .ok (.invokevirtual 46, 3) := by decide +kernel
theorem dX7_locker_21 : decode cX7_locker 21 = .ok (.ifCond .ne 8, 3) := by decide +kernel
theorem dX7_locker_24 : decode cX7_locker 24 = .ok (.ldc 176, 2) := by decide +kernel
theorem dX7_locker_26 : decode cX7_locker 26 = .ok (.goto 11, 3) := by decide +kernel
theorem dX7_locker_29 : decode cX7_locker 29 = .ok (.aload_n 0, 1) := by decide +kernel
theorem dX7_locker_30 : decode cX7_locker 30 = .ok (.iload_n 2, 1) := by decide +kernel
theorem dX7_locker_31 : decode cX7_locker 31 = .ok (.iconst 1, 1) := by decide +kernel
theorem dX7_locker_32 : decode cX7_locker 32 = .ok (.invokevirtual 46, 3) := by decide +kernel
theorem dX7_locker_35 : decode cX7_locker 35 = .ok (.iconst 1, 1) := by decide +kernel
theorem dX7_locker_36 : decode cX7_locker 36 = .ok (.isub, 1) := by decide +kernel
theorem dX7_locker_37 : decode cX7_locker 37 = .ok (.ireturn, 1) := by decide +kernel
theorem dX7_values_0 : decode cX7_values 0 = .ok (.aload_n 0, 1) := by decide +kernel
theorem dX7_values_1 : decode cX7_values 1 = .ok (.iload_n 1, 1) := by decide +kernel
theorem dX7_values_2 : decode cX7_values 2 = .ok (.invokevirtual 86, 3) := by decide +kernel
theorem dX7_values_5 : decode cX7_values 5 = .ok (.istore_n 3, 1) := by decide +kernel
theorem dX7_values_6 : decode cX7_values 6 = .ok (.iload_n 3, 1) := by decide +kernel
theorem dX7_values_7 : decode cX7_values 7 = .ok (.ifCond .lt 10, 3) := by decide +kernel
theorem dX7_values_10 : decode cX7_values 10 = .ok (.iload_n 2, 1) := by decide +kernel
theorem dX7_values_11 : decode cX7_values 11 = .ok (.invokestatic 128, 3) := by decide +kernel
theorem dX7_values_14 : decode cX7_values 14 = .ok (.ifCond .ne 8, 3) := by decide +kernel
theorem dX7_values_17 : decode cX7_values 17 = .ok (.ldc 41, 2) := by decide +kernel
theorem dX7_values_19 : decode cX7_values 19 = .ok (.goto 9, 3) := by decide +kernel
theorem dX7_values_22 : decode cX7_values 22 = .ok (.aload_n 0, 1) := by decide +kernel
theorem dX7_values_23 : decode cX7_values 23 = .ok (.iload_n 3, 1) := by decide +kernel
theorem dX7_values_24 : decode cX7_values 24 = .ok (.iload_n 2, 1) := by decide +kernel
theorem dX7_values_25 : decode cX7_values 25 = .ok (.invokevirtual 61, 3) := by decide +kernel
theorem dX7_values_28 : decode cX7_values 28 = .ok (.ireturn, 1) := by decide +kernel
theorem dX7_subvalues_0 : decode cX7_subvalues 0 = .ok (.aload_n 0, 1) := by decide +kernel
theorem dX7_subvalues_1 : decode cX7_subvalues 1 = .ok (.iload_n 1, 1) := by decide +kernel
theorem dX7_subvalues_2 : decode cX7_subvalues 2 = .ok (.invokevirtual 86, 3) := by decide +kernel
theorem dX7_subvalues_5 : decode cX7_subvalues 5 = .ok (.istore 4, 2) := by decide +kernel
theorem dX7_subvalues_7 : decode cX7_subvalues 7 = .ok (.iload 4, 2) := by decide +kernel
theorem dX7_subvalues_9 : decode cX7_subvalues 9 = .ok (.ifCond .lt 21, 3) := by decide +kernel
theorem dX7_subvalues_12 : decode cX7_subvalues 12 = .ok (.iload_n 2, 1) := by decide +kernel
theorem dX7_subvalues_13 : decode cX7_subvalues 13 = .ok (.invokestatic 128, 3) := by decide +kernel
theorem dX7_subvalues_16 : decode cX7_subvalues 16 = .ok (.ifCond .eq 14, 3) := by decide +kernel
theorem dX7_subvalues_19 : decode cX7_subvalues 19 = .ok (.aload_n 0, 1) := by decide +kernel
theorem dX7_subvalues_20 : decode cX7_subvalues 20 = .ok (.iload 4, 2) := by decide +kernel
theorem dX7_subvalues_22 : decode cX7_subvalues 22 = .ok (.iload_n 2, 1) := by decide +kernel
theorem dX7_subvalues_23 : decode cX7_subvalues 23 = .ok (.iload_n 3, 1) := by decide +kernel
theorem dX7_subvalues_24 : decode cX7_subvalues 24 = .ok (.invokevirtual 64, 3) := by decide +kernel
theorem dX7_subvalues_27 : decode cX7_subvalues 27 = .ok (.ifCond .ne 8, 3) := by decide +kernel
theorem dX7_subvalues_30 : decode cX7_subvalues 30 = .ok (.ldc 41, 2) := by decide +kernel
theorem dX7_subvalues_32 : decode cX7_subvalues 32 = .ok (.goto 11, 3) := by decide +kernel
theorem dX7_subvalues_35 : decode cX7_subvalues 35 = .ok (.aload_n 0, 1) := by decide +kernel
theorem dX7_subvalues_36 : decode cX7_subvalues 36 = .ok (.iload 4, 2) := by decide +kernel
theorem dX7_subvalues_38 : decode cX7_subvalues 38 = .ok (.iload_n 2, 1) := by decide +kernel
theorem dX7_subvalues_39 : decode cX7_subvalues 39 = .ok (.iload_n 3, 1) := by decide +kernel
theorem dX7_subvalues_40 : decode cX7_subvalues 40 = .ok (.invokevirtual 67, 3) := by decide +kernel
theorem dX7_subvalues_43 : decode cX7_subvalues 43 = .ok (.ireturn, 1) := by decide +kernel
theorem dX7_get_0 : decode cX7_get 0 = .ok (.aload_n 0, 1) := by decide +kernel
theorem dX7_get_1 : decode cX7_get 1 = .ok (.iload_n 1, 1) := by decide +kernel
theorem dX7_get_2 : decode cX7_get 2 = .ok (.invokevirtual 86, 3) := by decide +kernel
theorem dX7_get_5 : decode cX7_get 5 = .ok (.istore 5, 2) := by decide +kernel
theorem dX7_get_7 : decode cX7_get 7 = .ok (.iload 5, 2) := by decide +kernel
theorem dX7_get_9 : decode cX7_get 9 = .ok (.ifCond .lt 23, 3) := by decide +kernel
theorem dX7_get_12 : decode cX7_get 12 = .ok (.iload_n 2, 1) := by decide +kernel
theorem dX7_get_13 : decode cX7_get 13 = .ok (.invokestatic 128, 3) := by decide +kernel
theorem dX7_get_16 : decode cX7_get 16 = .ok (.ifCond .eq 16, 3) := by decide +kernel
theorem dX7_get_19 : decode cX7_get 19 = .ok (.aload_n 0, 1) := by decide +kernel
theorem dX7_get_20 : decode cX7_get 20 = .ok (.iload 5, 2) := by decide +kernel
theorem dX7_get_22 : decode cX7_get 22 = .ok (.iload_n 2, 1) := by decide +kernel
theorem dX7_get_23 : decode cX7_get 23 = .ok (.iload_n 3, 1) := by decide +kernel
theorem dX7_get_24 : decode cX7_get 24 = .ok (.iload 4, 2) := by decide +kernel
theorem dX7_get_26 : decode cX7_get 26 = .ok (.invokevirtual 138, 3) := by decide +kernel
theorem dX7_get_29 : decode cX7_get 29 = .ok (.ifCond .ne 8, 3) := by decide +kernel
theorem dX7_get_32 : decode cX7_get 32 = .ok (.ldc 41, 2) := by decide +kernel
theorem dX7_get_34 : decode cX7_get 34 = .ok (.goto 13, 3) := by decide +kernel
theorem dX7_get_37 : decode cX7_get 37 = .ok (.aload_n 0, 1) := by decide +kernel
theorem dX7_get_38 : decode cX7_get 38 = .ok (.iload 5, 2) := by decide +kernel
theorem dX7_get_40 : decode cX7_get 40 = .ok (.iload_n 2, 1) := by decide +kernel
theorem dX7_get_41 : decode cX7_get 41 = .ok (.iload_n 3, 1) := by decide +kernel
theorem dX7_get_42 : decode cX7_get 42 = .ok (.iload 4, 2) := by decide +kernel
theorem dX7_get_44 : decode cX7_get 44 = .ok (.invokevirtual 74, 3) := by decide +kernel
theorem dX7_get_47 : decode cX7_get 47 = .ok (.ireturn, 1) := by decide +kernel
theorem dX7_lines_0 : decode cX7_lines 0 = .ok (.aload_n 0, 1) := by decide +kernel
theorem dX7_lines_1 : decode cX7_lines 1 = .ok (.iload_n 1, 1) := by decide +kernel
theorem dX7_lines_2 : decode cX7_lines 2 = .ok (.invokevirtual 86, 3) := by decide +kernel
theorem dX7_lines_5 : decode cX7_lines 5 = .ok (.istore_n 2, 1) := by decide +kernel
theorem dX7_lines_6 : decode cX7_lines 6 = .ok (.iload_n 2, 1) := by decide +kernel
theorem dX7_lines_7 : decode cX7_lines 7 = .ok (.ifCond .ge 6, 3) := by decide +kernel
theorem dX7_lines_10 : decode cX7_lines 10 = .ok (.ldc 41, 2) := by decide +kernel
theorem dX7_lines_12 : decode cX7_lines 12 = .ok (.ireturn, 1) := by decide +kernel
theorem dX7_lines_13 : decode cX7_lines 13 = .ok (.iconst 0, 1) := by decide +kernel
theorem dX7_lines_14 : decode cX7_lines 14 = .ok (.istore_n 3, 1) := by decide +kernel
theorem dX7_lines_15 : decode cX7_lines 15 = .ok (.iconst 0, 1) := by decide +kernel
theorem dX7_lines_16 : decode cX7_lines 16 = .ok (.istore 4, 2) := by decide +kernel
theorem dX7_lines_18 : decode cX7_lines 18 = .ok (.iload 4, 2) := by decide +kernel
theorem dX7_lines_20 : decode cX7_lines 20 = .ok (.iconst 4, 1) := by decide +kernel
theorem dX7_lines_21 : decode cX7_lines 21 = .ok (.if_icmp .ge 45, 3) := by decide +kernel
theorem dX7_lines_24 : decode cX7_lines 24 = .ok (.aload_n 0, 1) := by decide +kernel
theorem dX7_lines_25 : decode cX7_lines 25 = .ok (.getfield 7, 3) := by decide +kernel
theorem dX7_lines_28 : decode cX7_lines 28 = .ok (.iconst 1, 1) := by decide +kernel
theorem dX7_lines_29 : decode cX7_lines 29 = .ok (.iload 4, 2) := by decide +kernel
theorem dX7_lines_31 : decode cX7_lines 31 = .ok (.iadd, 1) := by decide +kernel
theorem dX7_lines_32 : decode cX7_lines 32 = .ok (.iaload, 1) := by decide +kernel
theorem dX7_lines_33 : decode cX7_lines 33 = .ok (.iconst 1, 1) := by decide +kernel
theorem dX7_lines_34 : decode cX7_lines 34 = .ok (.if_icmp .ne 24, 3) := by decide +kernel
theorem dX7_lines_37 : decode cX7_lines 37 = .ok (.aload_n 0, 1) := by decide +kernel
theorem dX7_lines_38 : decode cX7_lines 38 = .ok (.iload_n 2, 1) := by decide +kernel
theorem dX7_lines_39 : decode cX7_lines 39 = .ok (.iload 4, 2) := by decide +kernel
theorem dX7_lines_41 : decode cX7_lines 41 = .ok (.invokevirtual 61, 3) := by decide +kernel
theorem dX7_lines_44 : decode cX7_lines 44 = .ok (.iload_n 3, 1) := by decide +kernel
theorem dX7_lines_45 : decode cX7_lines 45 = .ok (.if_icmp .le 13, 3) := by decide +kernel
theorem dX7_lines_48 : decode cX7_lines 48 = .ok (.aload_n 0, 1) := by decide +kernel
theorem dX7_lines_49 : decode cX7_lines 49 = .ok (.iload_n 2, 1) := by decide +kernel
theorem dX7_lines_50 : decode cX7_lines 50 = .ok (.iload 4, 2) := by decide +kernel
theorem dX7_lines_52 : decode cX7_lines 52 = .ok (.invokevirtual 61, 3) := by decide +kernel
theorem dX7_lines_55 : decode cX7_lines 55 = .ok (.goto 4, 3) := by decide +kernel
theorem dX7_lines_58 : decode cX7_lines 58 = .ok (.iload_n 3, 1) := by decide +kernel
theorem dX7_lines_59 : decode cX7_lines 59 = .ok (.istore_n 3, 1) := by decide +kernel
theorem dX7_lines_60 : decode cX7_lines 60 = .ok (.iinc 4 1, 3) := by decide +kernel
theorem dX7_lines_63 : decode cX7_lines 63 = .ok (.goto (-45), 3) := by decide +kernel
theorem dX7_lines_66 : decode cX7_lines 66 = .ok (.iload_n 3, 1) := by decide +kernel
theorem dX7_lines_67 : decode cX7_lines 67 = .ok (.ireturn, 1) := by decide +kernel
theorem dX7_locate_0 : decode cX7_locate 0 = .ok (.aload_n 0, 1) := by decide +kernel
theorem dX7_locate_1 : decode cX7_locate 1 = .ok (.iload_n 1, 1) := by decide +kernel
theorem dX7_locate_2 : decode cX7_locate 2 = .ok (.invokevirtual 86, 3) := by decide +kernel
theorem dX7_locate_5 : decode cX7_locate 5 = .ok (.istore 4, 2) := by decide +kernel
theorem dX7_locate_7 : decode cX7_locate 7 = .ok (.iload 4, 2) := by decide +kernel
theorem dX7_locate_9 : decode cX7_locate 9 = .ok (.ifCond .lt 10, 3) := by decide +kernel
theorem dX7_locate_12 : decode cX7_locate 12 = .ok (.iload_n 2, 1) := by decide +kernel
theorem dX7_locate_13 : decode cX7_locate 13 = .ok (.invokestatic 128, 3) := by decide +kernel
theorem dX7_locate_16 : decode cX7_locate 16 = .ok (.ifCond .ne 6, 3) := by decide +kernel
theorem dX7_locate_19 : decode cX7_locate 19 = .ok (.ldc 41, 2) := by decide +kernel
theorem dX7_locate_21 : decode cX7_locate 21 = .ok (.ireturn, 1) := by decide +kernel
theorem dX7_locate_22 : decode cX7_locate 22 = .ok (.iload_n 3, 1) := by decide +kernel
theorem dX7_locate_23 : decode cX7_locate 23 = .ok (.invokestatic 131, 3) := by decide +kernel
theorem dX7_locate_26 : decode cX7_locate 26 = .ok (.ifCond .ne 6, 3) := by decide +kernel
theorem dX7_locate_29 : decode cX7_locate 29 = .ok (.ldc 85, 2) := by decide +kernel
theorem dX7_locate_31 : decode cX7_locate 31 = .ok (.ireturn, 1) := by decide +kernel
theorem dX7_locate_32 : decode cX7_locate 32 = .ok (.ldc 176, 2) := by decide +kernel
theorem dX7_locate_34 : decode cX7_locate 34 = .ok (.istore 5, 2) := by decide +kernel
theorem dX7_locate_36 : decode cX7_locate 36 = .ok (.aload_n 0, 1) := by decide +kernel
theorem dX7_locate_37 : decode cX7_locate 37 = .ok (.iload 4, 2) := by decide +kernel
theorem dX7_locate_39 : decode cX7_locate 39 = .ok (.iload_n 2, 1) := by decide +kernel
theorem dX7_locate_40 : decode cX7_locate 40 = .ok (.invokevirtual 61, 3) := by decide +kernel
theorem dX7_locate_43 : decode cX7_locate 43 = .ok (.iconst 1, 1) := by decide +kernel
theorem dX7_locate_44 : decode cX7_locate 44 = .ok (.isub, 1) := by decide +kernel
theorem dX7_locate_45 : decode cX7_locate 45 = .ok (.istore 6, 2) := by decide +kernel
theorem dX7_locate_47 : decode cX7_locate 47 = .ok (.iload 6, 2) := by decide +kernel
theorem dX7_locate_49 : decode cX7_locate 49 = .ok (.ifCond .lt 63, 3) := by decide +kernel
theorem dX7_locate_52 : decode cX7_locate 52 = .ok (.aload_n 0, 1) := by decide +kernel
theorem dX7_locate_53 : decode cX7_locate 53 = .ok (.iload 4, 2) := by decide +kernel
theorem dX7_locate_55 : decode cX7_locate 55 = .ok (.iload_n 2, 1) := by decide +kernel
theorem dX7_locate_56 : decode cX7_locate 56 = .ok (.iload 6, 2) := by decide +kernel
theorem dX7_locate_58 : decode cX7_locate 58 = .ok (.invokevirtual 67, 3) := by decide +kernel
theorem dX7_locate_61 : decode cX7_locate 61 = .ok (.iconst 1, 1) := by decide +kernel
theorem dX7_locate_62 : decode cX7_locate 62 = .ok (.isub, 1) := by decide +kernel
theorem dX7_locate_63 : decode cX7_locate 63 = .ok (.istore 7, 2) := by decide +kernel
theorem dX7_locate_65 : decode cX7_locate 65 = .ok (.iload 7, 2) := by decide +kernel
theorem dX7_locate_67 : decode cX7_locate 67 = .ok (.ifCond .lt 39, 3) := by decide +kernel
theorem dX7_locate_70 : decode cX7_locate 70 = .ok (.aload_n 0, 1) := by decide +kernel
theorem dX7_locate_71 : decode cX7_locate 71 = .ok (.iload 4, 2) := by decide +kernel
theorem dX7_locate_73 : decode cX7_locate 73 = .ok (.iload_n 2, 1) := by decide +kernel
theorem dX7_locate_74 : decode cX7_locate 74 = .ok (.iload 6, 2) := by decide +kernel
theorem dX7_locate_76 : decode cX7_locate 76 = .ok (.iload 7, 2) := by decide +kernel
theorem dX7_locate_78 : decode cX7_locate 78 = .ok (.invokevirtual 74, 3) := by decide +kernel
theorem dX7_locate_81 : decode cX7_locate 81 = .ok (.iload_n 3, 1) := by decide +kernel
theorem dX7_locate_82 : decode cX7_locate 82 = .ok (.if_icmp .ne 14, 3) := by decide +kernel
theorem dX7_locate_85 : decode cX7_locate 85 = .ok (.bipush 10, 2) := by decide +kernel
theorem dX7_locate_87 : decode cX7_locate 87 = .ok (.iload 6, 2) := by decide +kernel
theorem dX7_locate_89 : decode cX7_locate 89 = .ok (.imul, 1) := by decide +kernel
theorem dX7_locate_90 : decode cX7_locate 90 = .ok (.iload 7, 2) := by decide +kernel
theorem dX7_locate_92 : decode cX7_locate 92 = .ok (.iadd, 1) := by decide +kernel
theorem dX7_locate_93 : decode cX7_locate 93 = .ok (.goto 5, 3) := by decide +kernel
theorem dX7_locate_96 : decode cX7_locate 96 = .ok (.iload 5, 2) := by decide +kernel
theorem dX7_locate_98 : decode cX7_locate 98 = .ok (.istore 5, 2) := by decide +kernel
theorem dX7_locate_100 : decode cX7_locate 100 = .ok (.iinc 7 (-1), 3) := by decide +kernel
theorem dX7_locate_103 : decode cX7_locate 103 = .ok (.goto (-38), 3) := by decide +kernel
theorem dX7_locate_106 : decode cX7_locate 106 = .ok (.iinc 6 (-1), 3) := by decide +kernel
theorem dX7_locate_109 : decode cX7_locate 109 = .ok (.goto (-62), 3) := by decide +kernel
theorem dX7_locate_112 : decode cX7_locate 112 = .ok (.iload 5, 2) := by decide +kernel
theorem dX7_locate_114 : decode cX7_locate 114 = .ok (.ireturn, 1) := by decide +kernel
theorem dX7_column_0 : decode cX7_column 0 = .ok (.iload_n 1, 1) := by decide +kernel
theorem dX7_column_1 : decode cX7_column 1 = .ok (.invokestatic 215, 3) := by decide +kernel
theorem dX7_column_4 : decode cX7_column 4 = .ok (.ifCond .ne 8, 3) := by decide +kernel
theorem dX7_column_7 : decode cX7_column 7 = .ok (.ldc 41, 2) := by decide +kernel
theorem dX7_column_9 : decode cX7_column 9 = .ok (.goto 23, 3) := by decide +kernel
theorem dX7_column_12 : decode cX7_column 12 = .ok (.iload_n 2, 1) := by decide +kernel
theorem dX7_column_13 : decode cX7_column 13 = .ok (.iconst 0, 1) := by decide +kernel
theorem dX7_column_14 : decode cX7_column 14 = .ok (.iconst 2, 1) := by decide +kernel
theorem dX7_column_15 : decode cX7_column 15 = .ok (.invokestatic 50, 3) := by decide +kernel
theorem dX7_column_18 : decode cX7_column 18 = .ok (.ifCond .eq 12, 3) := by decide +kernel
theorem dX7_column_21 : decode cX7_column 21 = .ok (.aload_n 0, 1) := by decide +kernel
theorem dX7_column_22 : decode cX7_column 22 = .ok (.iload_n 1, 1) := by decide +kernel
theorem dX7_column_23 : decode cX7_column 23 = .ok (.iload_n 2, 1) := by decide +kernel
theorem dX7_column_24 : decode cX7_column 24 = .ok (.invokevirtual 200, 3) := by decide +kernel
theorem dX7_column_27 : decode cX7_column 27 = .ok (.goto 5, 3) := by decide +kernel
theorem dX7_column_30 : decode cX7_column 30 = .ok (.ldc 85, 2) := by decide +kernel
theorem dX7_column_32 : decode cX7_column 32 = .ok (.ireturn, 1) := by decide +kernel
theorem dX7_associated_0 : decode cX7_associated 0 = .ok (.iload_n 1, 1) := by decide +kernel
theorem dX7_associated_1 : decode cX7_associated 1 = .ok (.invokestatic 128, 3) := by decide +kernel
theorem dX7_associated_4 : decode cX7_associated 4 = .ok (.ifCond .eq 14, 3) := by decide +kernel
theorem dX7_associated_7 : decode cX7_associated 7 = .ok (.aload_n 0, 1) := by decide +kernel
theorem dX7_associated_8 : decode cX7_associated 8 = .ok (.getfield 7, 3) := by decide +kernel
theorem dX7_associated_11 : decode cX7_associated 11 = .ok (.iconst 1, 1) := by decide +kernel
theorem dX7_associated_12 : decode cX7_associated 12 = .ok (.iload_n 1, 1) := by decide +kernel
theorem dX7_associated_13 : decode cX7_associated 13 = .ok (.iadd, 1) := by decide +kernel
theorem dX7_associated_14 : decode cX7_associated 14 = .ok (.iaload, 1) := by decide +kernel
theorem dX7_associated_15 : decode cX7_associated 15 = .ok (.goto 5, 3) := by decide +kernel
theorem dX7_associated_18 : decode cX7_associated 18 = .ok (.ldc 41, 2) := by decide +kernel
theorem dX7_associated_20 : decode cX7_associated 20 = .ok (.ireturn, 1) := by decide +kernel
theorem dX7_listSize_0 : decode cX7_listSize 0 = .ok (.iload_n 1, 1) := by decide +kernel
theorem dX7_listSize_1 : decode cX7_listSize 1 = .ok (.invokestatic 227, 3) := by decide +kernel
theorem dX7_listSize_4 : decode cX7_listSize 4 = .ok (.ifCond .eq 11, 3) := by decide +kernel
theorem dX7_listSize_7 : decode cX7_listSize 7 = .ok (.aload_n 0, 1) := by decide +kernel
theorem dX7_listSize_8 : decode cX7_listSize 8 = .ok (.iload_n 1, 1) := by decide +kernel
theorem dX7_listSize_9 : decode cX7_listSize 9 = .ok (.invokevirtual 240, 3) := by decide +kernel
theorem dX7_listSize_12 : decode cX7_listSize 12 = .ok (.goto 5, 3) := by decide +kernel
theorem dX7_listSize_15 : decode cX7_listSize 15 = .ok (.ldc 41, 2) := by decide +kernel
theorem dX7_listSize_17 : decode cX7_listSize 17 = .ok (.ireturn, 1) := by decide +kernel
theorem dX7_listAt_0 : decode cX7_listAt 0 = .ok (.iload_n 1, 1) := by decide +kernel
theorem dX7_listAt_1 : decode cX7_listAt 1 = .ok (.invokestatic 227, 3) := by decide +kernel
theorem dX7_listAt_4 : decode cX7_listAt 4 = .ok (.ifCond .ne 6, 3) := by decide +kernel
theorem dX7_listAt_7 : decode cX7_listAt 7 = .ok (.ldc 41, 2) := by decide +kernel
theorem dX7_listAt_9 : decode cX7_listAt 9 = .ok (.ireturn, 1) := by decide +kernel
theorem dX7_listAt_10 : decode cX7_listAt 10 = .ok (.iload_n 2, 1) := by decide +kernel
theorem dX7_listAt_11 : decode cX7_listAt 11 = .ok (.ifCond .ge 6, 3) := by decide +kernel
theorem dX7_listAt_14 : decode cX7_listAt 14 = .ok (.ldc 85, 2) := by decide +kernel
theorem dX7_listAt_16 : decode cX7_listAt 16 = .ok (.ireturn, 1) := by decide +kernel
theorem dX7_listAt_17 : decode cX7_listAt 17 = .ok (.ldc 176, 2) := by decide +kernel
theorem dX7_listAt_19 : decode cX7_listAt 19 = .ok (.istore_n 3, 1) := by decide +kernel
theorem dX7_listAt_20 : decode cX7_listAt 20 = .ok (.iconst 0, 1) := by decide +kernel
theorem dX7_listAt_21 : decode cX7_listAt 21 = .ok (.istore 4, 2) := by decide +kernel
theorem dX7_listAt_23 : decode cX7_listAt 23 = .ok (.iconst 0, 1) := by decide +kernel
theorem dX7_listAt_24 : decode cX7_listAt 24 = .ok (.istore 5, 2) := by decide +kernel
theorem dX7_listAt_26 : decode cX7_listAt 26 = .ok (.iload 5, 2) := by decide +kernel
theorem dX7_listAt_28 : decode cX7_listAt 28 = .ok (.bipush 100, 2) := by decide +kernel
theorem dX7_listAt_30 : decode cX7_listAt 30 = .ok (.if_icmp .ge 52, 3) := by decide +kernel
theorem dX7_listAt_33 : decode cX7_listAt 33 = .ok (.aload_n 0, 1) := by decide +kernel
theorem dX7_listAt_34 : decode cX7_listAt 34 = .ok (.iload_n 1, 1) := by decide +kernel
theorem dX7_listAt_35 : decode cX7_listAt 35 = .ok (.iload 5, 2) := by decide +kernel
theorem dX7_listAt_37 : decode cX7_listAt 37 = .ok (.invokevirtual 218, 3) := by decide +kernel
theorem dX7_listAt_40 : decode cX7_listAt 40 = .ok (.ifCond .eq 14, 3) := by decide +kernel
theorem dX7_listAt_43 : decode cX7_listAt 43 = .ok (.iload 4, 2) := by decide +kernel
theorem dX7_listAt_45 : decode cX7_listAt 45 = .ok (.iload_n 2, 1) := by decide +kernel
theorem dX7_listAt_46 : decode cX7_listAt 46 = .ok (.if_icmp .ne 8, 3) := by decide +kernel
theorem dX7_listAt_49 : decode cX7_listAt 49 = .ok (.iload 5, 2) := by decide +kernel
theorem dX7_listAt_51 : decode cX7_listAt 51 = .ok (.goto 4, 3) := by decide +kernel
theorem dX7_listAt_54 : decode cX7_listAt 54 = .ok (.iload_n 3, 1) := by decide +kernel
theorem dX7_listAt_55 : decode cX7_listAt 55 = .ok (.istore_n 3, 1) := by decide +kernel
theorem dX7_listAt_56 : decode cX7_listAt 56 = .ok (.iload 4, 2) := by decide +kernel
theorem dX7_listAt_58 : decode cX7_listAt 58 = .ok (.aload_n 0, 1) := by decide +kernel
theorem dX7_listAt_59 : decode cX7_listAt 59 = .ok (.iload_n 1, 1) := by decide +kernel
theorem dX7_listAt_60 : decode cX7_listAt 60 = .ok (.iload 5, 2) := by decide +kernel
theorem dX7_listAt_62 : decode cX7_listAt 62 = .ok (.invokevirtual 218, 3) := by decide +kernel
theorem dX7_listAt_65 : decode cX7_listAt 65 = .ok (.ifCond .eq 7, 3) := by decide +kernel
theorem dX7_listAt_68 : decode cX7_listAt 68 = .ok (.iconst 1, 1) := by decide +kernel
theorem dX7_listAt_69 : decode cX7_listAt 69 = .ok (.goto 4, 3) := by decide +kernel
theorem dX7_listAt_72 : decode cX7_listAt 72 = .ok (.iconst 0, 1) := by decide +kernel
theorem dX7_listAt_73 : decode cX7_listAt 73 = .ok (.iadd, 1) := by decide +kernel
theorem dX7_listAt_74 : decode cX7_listAt 74 = .ok (.istore 4, 2) := by decide +kernel
theorem dX7_listAt_76 : decode cX7_listAt 76 = .ok (.iinc 5 1, 3) := by decide +kernel
theorem dX7_listAt_79 : decode cX7_listAt 79 = .ok (.goto (-53), 3) := by decide +kernel
theorem dX7_listAt_82 : decode cX7_listAt 82 = .ok (.iload_n 3, 1) := by decide +kernel
theorem dX7_listAt_83 : decode cX7_listAt 83 = .ok (.ireturn, 1) := by decide +kernel
theorem dX7_numbers_0 : decode cX7_numbers 0 = .ok (.aload_n 0, 1) := by decide +kernel
theorem dX7_numbers_1 : decode cX7_numbers 1 = .ok (.iload_n 1, 1) := by decide +kernel
theorem dX7_numbers_2 : decode cX7_numbers 2 = .ok (.invokevirtual 86, 3) := by decide +kernel
theorem dX7_numbers_5 : decode cX7_numbers 5 = .ok (.istore_n 3, 1) := by decide +kernel
theorem dX7_numbers_6 : decode cX7_numbers 6 = .ok (.iload_n 3, 1) := by decide +kernel
theorem dX7_numbers_7 : decode cX7_numbers 7 = .ok (.ifCond .lt 10, 3) := by decide +kernel
theorem dX7_numbers_10 : decode cX7_numbers 10 = .ok (.iload_n 2, 1) := by decide +kernel
theorem dX7_numbers_11 : decode cX7_numbers 11 = .ok (.invokestatic 215, 3) := by decide +kernel
theorem dX7_numbers_14 : decode cX7_numbers 14 = .ok (.ifCond .ne 8, 3) := by decide +kernel
theorem dX7_numbers_17 : decode cX7_numbers 17 = .ok (.ldc 41, 2) := by decide +kernel
theorem dX7_numbers_19 : decode cX7_numbers 19 = .ok (.goto 9, 3) := by decide +kernel
theorem dX7_numbers_22 : decode cX7_numbers 22 = .ok (.aload_n 0, 1) := by decide +kernel
theorem dX7_numbers_23 : decode cX7_numbers 23 = .ok (.iload_n 3, 1) := by decide +kernel
theorem dX7_numbers_24 : decode cX7_numbers 24 = .ok (.iload_n 2, 1) := by decide +kernel
theorem dX7_numbers_25 : decode cX7_numbers 25 = .ok (.invokevirtual 221, 3) := by decide +kernel
theorem dX7_numbers_28 : decode cX7_numbers 28 = .ok (.ireturn, 1) := by decide +kernel
theorem dX7_numberAt_0 : decode cX7_numberAt 0 = .ok (.aload_n 0, 1) := by decide +kernel
theorem dX7_numberAt_1 : decode cX7_numberAt 1 = .ok (.iload_n 1, 1) := by decide +kernel
theorem dX7_numberAt_2 : decode cX7_numberAt 2 = .ok (.invokevirtual 86, 3) := by decide +kernel
theorem dX7_numberAt_5 : decode cX7_numberAt 5 = .ok (.istore 4, 2) := by decide +kernel
theorem dX7_numberAt_7 : decode cX7_numberAt 7 = .ok (.iload 4, 2) := by decide +kernel
theorem dX7_numberAt_9 : decode cX7_numberAt 9 = .ok (.ifCond .lt 10, 3) := by decide +kernel
theorem dX7_numberAt_12 : decode cX7_numberAt 12 = .ok (.iload_n 2, 1) := by decide +kernel
theorem dX7_numberAt_13 : decode cX7_numberAt 13 = .ok (.invokestatic 215, 3) := by decide +kernel
theorem dX7_numberAt_16 : decode cX7_numberAt 16 = .ok (.ifCond .ne 6, 3) := by decide +kernel
theorem dX7_numberAt_19 : decode cX7_numberAt 19 = .ok (.ldc 41, 2) := by decide +kernel
theorem dX7_numberAt_21 : decode cX7_numberAt 21 = .ok (.ireturn, 1) := by decide +kernel
theorem dX7_numberAt_22 : decode cX7_numberAt 22 = .ok (.iload_n 3, 1) := by decide +kernel
theorem dX7_numberAt_23 : decode cX7_numberAt 23 = .ok (.ifCond .ge 6, 3) := by decide +kernel
theorem dX7_numberAt_26 : decode cX7_numberAt 26 = .ok (.ldc 85, 2) := by decide +kernel
theorem dX7_numberAt_28 : decode cX7_numberAt 28 = .ok (.ireturn, 1) := by decide +kernel
theorem dX7_numberAt_29 : decode cX7_numberAt 29 = .ok (.iload_n 3, 1) := by decide +kernel
theorem dX7_numberAt_30 : decode cX7_numberAt 30 = .ok (.aload_n 0, 1) := by decide +kernel
theorem dX7_numberAt_31 : decode cX7_numberAt 31 = .ok (.iload 4, 2) := by decide +kernel
theorem dX7_numberAt_33 : decode cX7_numberAt 33 = .ok (.iload_n 2, 1) := by decide +kernel
theorem dX7_numberAt_34 : decode cX7_numberAt 34 = .ok (.invokevirtual 221, 3) := by decide +kernel
theorem dX7_numberAt_37 : decode cX7_numberAt 37 = .ok (.if_icmp .ge 12, 3) := by decide +kernel
theorem dX7_numberAt_40 : decode cX7_numberAt 40 = .ok (.aload_n 0, 1) := by decide +kernel
theorem dX7_numberAt_41 : decode cX7_numberAt 41 = .ok (.getfield 25, 3) := by decide +kernel
theorem dX7_numberAt_44 : decode cX7_numberAt 44 = .ok (.iload_n 3, 1) := by decide +kernel
theorem dX7_numberAt_45 : decode cX7_numberAt 45 = .ok (.iaload, 1) := by decide +kernel
theorem dX7_numberAt_46 : decode cX7_numberAt 46 = .ok (.goto 5, 3) := by decide +kernel
theorem dX7_numberAt_49 : decode cX7_numberAt 49 = .ok (.ldc 176, 2) := by decide +kernel
theorem dX7_numberAt_51 : decode cX7_numberAt 51 = .ok (.ireturn, 1) := by decide +kernel
theorem dX7_laysEntries_0 : decode cX7_laysEntries 0 = .ok (.iconst 0, 1) := by decide +kernel
theorem dX7_laysEntries_1 : decode cX7_laysEntries 1 = .ok (.istore_n 2, 1) := by decide +kernel
theorem dX7_laysEntries_2 : decode cX7_laysEntries 2 = .ok (.iconst 0, 1) := by decide +kernel
theorem dX7_laysEntries_3 : decode cX7_laysEntries 3 = .ok (.istore_n 3, 1) := by decide +kernel
theorem dX7_laysEntries_4 : decode cX7_laysEntries 4 = .ok (.iload_n 3, 1) := by decide +kernel
theorem dX7_laysEntries_5 : decode cX7_laysEntries 5 = .ok (.aload_n 0, 1) := by decide +kernel
theorem dX7_laysEntries_6 : decode cX7_laysEntries 6 = .ok (.getfield 7, 3) := by decide +kernel
theorem dX7_laysEntries_9 : decode cX7_laysEntries 9 = .ok (.iconst 0, 1) := by decide +kernel
theorem dX7_laysEntries_10 : decode cX7_laysEntries 10 = .ok (.iaload, 1) := by decide +kernel
theorem dX7_laysEntries_11 : decode cX7_laysEntries 11 = .ok (.if_icmp .ge 69, 3) := by decide +kernel
theorem dX7_laysEntries_14 : decode cX7_laysEntries 14 = .ok (.aload_n 0, 1) := by decide +kernel
theorem dX7_laysEntries_15 : decode cX7_laysEntries 15 = .ok (.iload_n 3, 1) := by decide +kernel
theorem dX7_laysEntries_16 : decode cX7_laysEntries 16 = .ok (.iload_n 1, 1) := by decide +kernel
theorem dX7_laysEntries_17 : decode cX7_laysEntries 17 = .ok (.invokevirtual 221, 3) := by decide +kernel
theorem dX7_laysEntries_20 : decode cX7_laysEntries 20 = .ok (.istore 4, 2) := by decide +kernel
theorem dX7_laysEntries_22 : decode cX7_laysEntries 22 = .ok (.iconst 0, 1) := by decide +kernel
theorem dX7_laysEntries_23 : decode cX7_laysEntries 23 = .ok (.istore 5, 2) := by decide +kernel
theorem dX7_laysEntries_25 : decode cX7_laysEntries 25 = .ok (.iload 5, 2) := by decide +kernel
theorem dX7_laysEntries_27 : decode cX7_laysEntries 27 = .ok (.iload 4, 2) := by decide +kernel
theorem dX7_laysEntries_29 : decode cX7_laysEntries 29 = .ok (.if_icmp .ge 45, 3) := by decide +kernel
theorem dX7_laysEntries_32 : decode cX7_laysEntries 32 = .ok (.aload_n 0, 1) := by decide +kernel
theorem dX7_laysEntries_33 : decode cX7_laysEntries 33 = .ok (.getfield 28, 3) := by decide +kernel
theorem dX7_laysEntries_36 : decode cX7_laysEntries 36 = .ok (.iload_n 2, 1) := by decide +kernel
theorem dX7_laysEntries_37 : decode cX7_laysEntries 37 = .ok (.aload_n 0, 1) := by decide +kernel
theorem dX7_laysEntries_38 : decode cX7_laysEntries 38 = .ok (.getfield 25, 3) := by decide +kernel
theorem dX7_laysEntries_41 : decode cX7_laysEntries 41 = .ok (.iload 5, 2) := by decide +kernel
theorem dX7_laysEntries_43 : decode cX7_laysEntries 43 = .ok (.iaload, 1) := by decide +kernel
theorem dX7_laysEntries_44 : decode cX7_laysEntries 44 = .ok (.iastore, 1) := by decide +kernel
theorem dX7_laysEntries_45 : decode cX7_laysEntries 45 = .ok (.aload_n 0, 1) := by decide +kernel
theorem dX7_laysEntries_46 : decode cX7_laysEntries 46 = .ok (.getfield 31, 3) := by decide +kernel
theorem dX7_laysEntries_49 : decode cX7_laysEntries 49 = .ok (.iload_n 2, 1) := by decide +kernel
theorem dX7_laysEntries_50 : decode cX7_laysEntries 50 = .ok (.aload_n 0, 1) := by decide +kernel
theorem dX7_laysEntries_51 : decode cX7_laysEntries 51 = .ok (.iload_n 3, 1) := by decide +kernel
theorem dX7_laysEntries_52 : decode cX7_laysEntries 52 = .ok (.iconst 0, 1) := by decide +kernel
theorem dX7_laysEntries_53 : decode cX7_laysEntries 53 = .ok (.invokevirtual 46, 3) := by decide +kernel
theorem dX7_laysEntries_56 : decode cX7_laysEntries 56 = .ok (.iastore, 1) := by decide +kernel
theorem dX7_laysEntries_57 : decode cX7_laysEntries 57 = .ok (.aload_n 0, 1) := by decide +kernel
theorem dX7_laysEntries_58 : decode cX7_laysEntries 58 = .ok (.getfield 34, 3) := by decide +kernel
theorem dX7_laysEntries_61 : decode cX7_laysEntries 61 = .ok (.iload_n 2, 1) := by decide +kernel
theorem dX7_laysEntries_62 : decode cX7_laysEntries 62 = .ok (.iload 5, 2) := by decide +kernel
theorem dX7_laysEntries_64 : decode cX7_laysEntries 64 = .ok (.iastore, 1) := by decide +kernel
theorem dX7_laysEntries_65 : decode cX7_laysEntries 65 = .ok (.iinc 2 1, 3) := by decide +kernel
theorem dX7_laysEntries_68 : decode cX7_laysEntries 68 = .ok (.iinc 5 1, 3) := by decide +kernel
theorem dX7_laysEntries_71 : decode cX7_laysEntries 71 = .ok (.goto (-46), 3) := by decide +kernel
theorem dX7_laysEntries_74 : decode cX7_laysEntries 74 = .ok (.iinc 3 1, 3) := by decide +kernel
theorem dX7_laysEntries_77 : decode cX7_laysEntries 77 = .ok (.goto (-73), 3) := by decide +kernel
theorem dX7_laysEntries_80 : decode cX7_laysEntries 80 = .ok (.iload_n 2, 1) := by decide +kernel
theorem dX7_laysEntries_81 : decode cX7_laysEntries 81 = .ok (.ireturn, 1) := by decide +kernel
theorem dX7_exploded_0 : decode cX7_exploded 0 = .ok (.iload_n 1, 1) := by decide +kernel
theorem dX7_exploded_1 : decode cX7_exploded 1 = .ok (.invokestatic 215, 3) := by decide +kernel
theorem dX7_exploded_4 : decode cX7_exploded 4 = .ok (.ifCond .eq 11, 3) := by decide +kernel
theorem dX7_exploded_7 : decode cX7_exploded 7 = .ok (.aload_n 0, 1) := by decide +kernel
theorem dX7_exploded_8 : decode cX7_exploded 8 = .ok (.iload_n 1, 1) := by decide +kernel
theorem dX7_exploded_9 : decode cX7_exploded 9 = .ok (.invokevirtual 260, 3) := by decide +kernel
theorem dX7_exploded_12 : decode cX7_exploded 12 = .ok (.goto 5, 3) := by decide +kernel
theorem dX7_exploded_15 : decode cX7_exploded 15 = .ok (.ldc 41, 2) := by decide +kernel
theorem dX7_exploded_17 : decode cX7_exploded 17 = .ok (.ireturn, 1) := by decide +kernel
theorem dX7_isAhead_0 : decode cX7_isAhead 0 = .ok (.iload_n 3, 1) := by decide +kernel
theorem dX7_isAhead_1 : decode cX7_isAhead 1 = .ok (.ifCond .eq 26, 3) := by decide +kernel
theorem dX7_isAhead_4 : decode cX7_isAhead 4 = .ok (.aload_n 0, 1) := by decide +kernel
theorem dX7_isAhead_5 : decode cX7_isAhead 5 = .ok (.getfield 28, 3) := by decide +kernel
theorem dX7_isAhead_8 : decode cX7_isAhead 8 = .ok (.iload_n 1, 1) := by decide +kernel
theorem dX7_isAhead_9 : decode cX7_isAhead 9 = .ok (.iaload, 1) := by decide +kernel
theorem dX7_isAhead_10 : decode cX7_isAhead 10 = .ok (.aload_n 0, 1) := by decide +kernel
theorem dX7_isAhead_11 : decode cX7_isAhead 11 = .ok (.getfield 28, 3) := by decide +kernel
theorem dX7_isAhead_14 : decode cX7_isAhead 14 = .ok (.iload_n 2, 1) := by decide +kernel
theorem dX7_isAhead_15 : decode cX7_isAhead 15 = .ok (.iaload, 1) := by decide +kernel
theorem dX7_isAhead_16 : decode cX7_isAhead 16 = .ok (.if_icmp .le 7, 3) := by decide +kernel
theorem dX7_isAhead_19 : decode cX7_isAhead 19 = .ok (.iconst 1, 1) := by decide +kernel
theorem dX7_isAhead_20 : decode cX7_isAhead 20 = .ok (.goto 27, 3) := by decide +kernel
theorem dX7_isAhead_23 : decode cX7_isAhead 23 = .ok (.iconst 0, 1) := by decide +kernel
theorem dX7_isAhead_24 : decode cX7_isAhead 24 = .ok (.goto 23, 3) := by decide +kernel
theorem dX7_isAhead_27 : decode cX7_isAhead 27 = .ok (.aload_n 0, 1) := by decide +kernel
theorem dX7_isAhead_28 : decode cX7_isAhead 28 = .ok (.getfield 28, 3) := by decide +kernel
theorem dX7_isAhead_31 : decode cX7_isAhead 31 = .ok (.iload_n 1, 1) := by decide +kernel
theorem dX7_isAhead_32 : decode cX7_isAhead 32 = .ok (.iaload, 1) := by decide +kernel
theorem dX7_isAhead_33 : decode cX7_isAhead 33 = .ok (.aload_n 0, 1) := by decide +kernel
theorem dX7_isAhead_34 : decode cX7_isAhead 34 = .ok (.getfield 28, 3) := by decide +kernel
theorem dX7_isAhead_37 : decode cX7_isAhead 37 = .ok (.iload_n 2, 1) := by decide +kernel
theorem dX7_isAhead_38 : decode cX7_isAhead 38 = .ok (.iaload, 1) := by decide +kernel
theorem dX7_isAhead_39 : decode cX7_isAhead 39 = .ok (.if_icmp .ge 7, 3) := by decide +kernel
theorem dX7_isAhead_42 : decode cX7_isAhead 42 = .ok (.iconst 1, 1) := by decide +kernel
end
section
theorem dX7_isAhead_43 : decode cX7_isAhead 43 = .ok (.goto 4, 3) := by decide +kernel
theorem dX7_isAhead_46 : decode cX7_isAhead 46 = .ok (.iconst 0, 1) := by decide +kernel
theorem dX7_isAhead_47 : decode cX7_isAhead 47 = .ok (.istore 4, 2) := by decide +kernel
theorem dX7_isAhead_49 : decode cX7_isAhead 49 = .ok (.iload 4, 2) := by decide +kernel
theorem dX7_isAhead_51 : decode cX7_isAhead 51 = .ok (.ifCond .ne 63, 3) := by decide +kernel
theorem dX7_isAhead_54 : decode cX7_isAhead 54 = .ok (.aload_n 0, 1) := by decide +kernel
theorem dX7_isAhead_55 : decode cX7_isAhead 55 = .ok (.getfield 28, 3) := by decide +kernel
theorem dX7_isAhead_58 : decode cX7_isAhead 58 = .ok (.iload_n 1, 1) := by decide +kernel
theorem dX7_isAhead_59 : decode cX7_isAhead 59 = .ok (.iaload, 1) := by decide +kernel
theorem dX7_isAhead_60 : decode cX7_isAhead 60 = .ok (.aload_n 0, 1) := by decide +kernel
theorem dX7_isAhead_61 : decode cX7_isAhead 61 = .ok (.getfield 28, 3) := by decide +kernel
theorem dX7_isAhead_64 : decode cX7_isAhead 64 = .ok (.iload_n 2, 1) := by decide +kernel
theorem dX7_isAhead_65 : decode cX7_isAhead 65 = .ok (.iaload, 1) := by decide +kernel
theorem dX7_isAhead_66 : decode cX7_isAhead 66 = .ok (.if_icmp .ne 52, 3) := by decide +kernel
theorem dX7_isAhead_69 : decode cX7_isAhead 69 = .ok (.aload_n 0, 1) := by decide +kernel
theorem dX7_isAhead_70 : decode cX7_isAhead 70 = .ok (.getfield 31, 3) := by decide +kernel
theorem dX7_isAhead_73 : decode cX7_isAhead 73 = .ok (.iload_n 1, 1) := by decide +kernel
theorem dX7_isAhead_74 : decode cX7_isAhead 74 = .ok (.iaload, 1) := by decide +kernel
theorem dX7_isAhead_75 : decode cX7_isAhead 75 = .ok (.aload_n 0, 1) := by decide +kernel
theorem dX7_isAhead_76 : decode cX7_isAhead 76 = .ok (.getfield 31, 3) := by decide +kernel
theorem dX7_isAhead_79 : decode cX7_isAhead 79 = .ok (.iload_n 2, 1) := by decide +kernel
theorem dX7_isAhead_80 : decode cX7_isAhead 80 = .ok (.iaload, 1) := by decide +kernel
theorem dX7_isAhead_81 : decode cX7_isAhead 81 = .ok (.if_icmp .lt 33, 3) := by decide +kernel
theorem dX7_isAhead_84 : decode cX7_isAhead 84 = .ok (.aload_n 0, 1) := by decide +kernel
theorem dX7_isAhead_85 : decode cX7_isAhead 85 = .ok (.getfield 31, 3) := by decide +kernel
theorem dX7_isAhead_88 : decode cX7_isAhead 88 = .ok (.iload_n 1, 1) := by decide +kernel
theorem dX7_isAhead_89 : decode cX7_isAhead 89 = .ok (.iaload, 1) := by decide +kernel
theorem dX7_isAhead_90 : decode cX7_isAhead 90 = .ok (.aload_n 0, 1) := by decide +kernel
theorem dX7_isAhead_91 : decode cX7_isAhead 91 = .ok (.getfield 31, 3) := by decide +kernel
theorem dX7_isAhead_94 : decode cX7_isAhead 94 = .ok (.iload_n 2, 1) := by decide +kernel
theorem dX7_isAhead_95 : decode cX7_isAhead 95 = .ok (.iaload, 1) := by decide +kernel
theorem dX7_isAhead_96 : decode cX7_isAhead 96 = .ok (.if_icmp .ne 22, 3) := by decide +kernel
theorem dX7_isAhead_99 : decode cX7_isAhead 99 = .ok (.aload_n 0, 1) := by decide +kernel
theorem dX7_isAhead_100 : decode cX7_isAhead 100 = .ok (.getfield 34, 3) := by decide +kernel
theorem dX7_isAhead_103 : decode cX7_isAhead 103 = .ok (.iload_n 1, 1) := by decide +kernel
theorem dX7_isAhead_104 : decode cX7_isAhead 104 = .ok (.iaload, 1) := by decide +kernel
theorem dX7_isAhead_105 : decode cX7_isAhead 105 = .ok (.aload_n 0, 1) := by decide +kernel
theorem dX7_isAhead_106 : decode cX7_isAhead 106 = .ok (.getfield 34, 3) := by decide +kernel
theorem dX7_isAhead_109 : decode cX7_isAhead 109 = .ok (.iload_n 2, 1) := by decide +kernel
theorem dX7_isAhead_110 : decode cX7_isAhead 110 = .ok (.iaload, 1) := by decide +kernel
theorem dX7_isAhead_111 : decode cX7_isAhead 111 = .ok (.if_icmp .ge 7, 3) := by decide +kernel
theorem dX7_isAhead_114 : decode cX7_isAhead 114 = .ok (.iconst 1, 1) := by decide +kernel
theorem dX7_isAhead_115 : decode cX7_isAhead 115 = .ok (.goto 4, 3) := by decide +kernel
theorem dX7_isAhead_118 : decode cX7_isAhead 118 = .ok (.iconst 0, 1) := by decide +kernel
theorem dX7_isAhead_119 : decode cX7_isAhead 119 = .ok (.ireturn, 1) := by decide +kernel
theorem dX7_explodedAt_0 : decode cX7_explodedAt 0 = .ok (.iload_n 1, 1) := by decide +kernel
theorem dX7_explodedAt_1 : decode cX7_explodedAt 1 = .ok (.invokestatic 215, 3) := by decide +kernel
theorem dX7_explodedAt_4 : decode cX7_explodedAt 4 = .ok (.ifCond .ne 6, 3) := by decide +kernel
theorem dX7_explodedAt_7 : decode cX7_explodedAt 7 = .ok (.ldc 41, 2) := by decide +kernel
theorem dX7_explodedAt_9 : decode cX7_explodedAt 9 = .ok (.ireturn, 1) := by decide +kernel
theorem dX7_explodedAt_10 : decode cX7_explodedAt 10 = .ok (.iload_n 3, 1) := by decide +kernel
theorem dX7_explodedAt_11 : decode cX7_explodedAt 11 = .ok (.ifCond .lt 13, 3) := by decide +kernel
theorem dX7_explodedAt_14 : decode cX7_explodedAt 14 = .ok (.iload 4, 2) := by decide +kernel
theorem dX7_explodedAt_16 : decode cX7_explodedAt 16 = .ok (.iconst 0, 1) := by decide +kernel
theorem dX7_explodedAt_17 : decode cX7_explodedAt 17 = .ok (.iconst 2, 1) := by decide +kernel
theorem dX7_explodedAt_18 : decode cX7_explodedAt 18 = .ok (.invokestatic 50, 3) := by decide +kernel
theorem dX7_explodedAt_21 : decode cX7_explodedAt 21 = .ok (.ifCond .ne 6, 3) := by decide +kernel
theorem dX7_explodedAt_24 : decode cX7_explodedAt 24 = .ok (.ldc 85, 2) := by decide +kernel
theorem dX7_explodedAt_26 : decode cX7_explodedAt 26 = .ok (.ireturn, 1) := by decide +kernel
theorem dX7_explodedAt_27 : decode cX7_explodedAt 27 = .ok (.aload_n 0, 1) := by decide +kernel
theorem dX7_explodedAt_28 : decode cX7_explodedAt 28 = .ok (.iload_n 1, 1) := by decide +kernel
theorem dX7_explodedAt_29 : decode cX7_explodedAt 29 = .ok (.invokevirtual 260, 3) := by decide +kernel
theorem dX7_explodedAt_32 : decode cX7_explodedAt 32 = .ok (.istore 5, 2) := by decide +kernel
theorem dX7_explodedAt_34 : decode cX7_explodedAt 34 = .ok (.ldc 176, 2) := by decide +kernel
theorem dX7_explodedAt_36 : decode cX7_explodedAt 36 = .ok (.istore 6, 2) := by decide +kernel
theorem dX7_explodedAt_38 : decode cX7_explodedAt 38 = .ok (.iconst 0, 1) := by decide +kernel
theorem dX7_explodedAt_39 : decode cX7_explodedAt 39 = .ok (.istore 7, 2) := by decide +kernel
theorem dX7_explodedAt_41 : decode cX7_explodedAt 41 = .ok (.iload 7, 2) := by decide +kernel
theorem dX7_explodedAt_43 : decode cX7_explodedAt 43 = .ok (.iload 5, 2) := by decide +kernel
theorem dX7_explodedAt_45 : decode cX7_explodedAt 45 = .ok (.if_icmp .ge 65, 3) := by decide +kernel
theorem dX7_explodedAt_48 : decode cX7_explodedAt 48 = .ok (.iconst 0, 1) := by decide +kernel
theorem dX7_explodedAt_49 : decode cX7_explodedAt 49 = .ok (.istore 8, 2) := by decide +kernel
theorem dX7_explodedAt_51 : decode cX7_explodedAt 51 = .ok (.iconst 0, 1) := by decide +kernel
theorem dX7_explodedAt_52 : decode cX7_explodedAt 52 = .ok (.istore 9, 2) := by decide +kernel
theorem dX7_explodedAt_54 : decode cX7_explodedAt 54 = .ok (.iload 9, 2) := by decide +kernel
theorem dX7_explodedAt_56 : decode cX7_explodedAt 56 = .ok (.iload 5, 2) := by decide +kernel
theorem dX7_explodedAt_58 : decode cX7_explodedAt 58 = .ok (.if_icmp .ge 31, 3) := by decide +kernel
theorem dX7_explodedAt_61 : decode cX7_explodedAt 61 = .ok (.iload 8, 2) := by decide +kernel
theorem dX7_explodedAt_63 : decode cX7_explodedAt 63 = .ok (.aload_n 0, 1) := by decide +kernel
theorem dX7_explodedAt_64 : decode cX7_explodedAt 64 = .ok (.iload 9, 2) := by decide +kernel
theorem dX7_explodedAt_66 : decode cX7_explodedAt 66 = .ok (.iload 7, 2) := by decide +kernel
theorem dX7_explodedAt_68 : decode cX7_explodedAt 68 = .ok (.iload_n 2, 1) := by decide +kernel
theorem dX7_explodedAt_69 : decode cX7_explodedAt 69 = .ok (.invokevirtual 263, 3) := by decide +kernel
theorem dX7_explodedAt_72 : decode cX7_explodedAt 72 = .ok (.ifCond .eq 7, 3) := by decide +kernel
theorem dX7_explodedAt_75 : decode cX7_explodedAt 75 = .ok (.iconst 1, 1) := by decide +kernel
theorem dX7_explodedAt_76 : decode cX7_explodedAt 76 = .ok (.goto 4, 3) := by decide +kernel
theorem dX7_explodedAt_79 : decode cX7_explodedAt 79 = .ok (.iconst 0, 1) := by decide +kernel
theorem dX7_explodedAt_80 : decode cX7_explodedAt 80 = .ok (.iadd, 1) := by decide +kernel
theorem dX7_explodedAt_81 : decode cX7_explodedAt 81 = .ok (.istore 8, 2) := by decide +kernel
theorem dX7_explodedAt_83 : decode cX7_explodedAt 83 = .ok (.iinc 9 1, 3) := by decide +kernel
theorem dX7_explodedAt_86 : decode cX7_explodedAt 86 = .ok (.goto (-32), 3) := by decide +kernel
theorem dX7_explodedAt_89 : decode cX7_explodedAt 89 = .ok (.iload 8, 2) := by decide +kernel
theorem dX7_explodedAt_91 : decode cX7_explodedAt 91 = .ok (.iload_n 3, 1) := by decide +kernel
theorem dX7_explodedAt_92 : decode cX7_explodedAt 92 = .ok (.if_icmp .ne 8, 3) := by decide +kernel
theorem dX7_explodedAt_95 : decode cX7_explodedAt 95 = .ok (.iload 7, 2) := by decide +kernel
theorem dX7_explodedAt_97 : decode cX7_explodedAt 97 = .ok (.goto 5, 3) := by decide +kernel
theorem dX7_explodedAt_100 : decode cX7_explodedAt 100 = .ok (.iload 6, 2) := by decide +kernel
theorem dX7_explodedAt_102 : decode cX7_explodedAt 102 = .ok (.istore 6, 2) := by decide +kernel
theorem dX7_explodedAt_104 : decode cX7_explodedAt 104 = .ok (.iinc 7 1, 3) := by decide +kernel
theorem dX7_explodedAt_107 : decode cX7_explodedAt 107 = .ok (.goto (-66), 3) := by decide +kernel
theorem dX7_explodedAt_110 : decode cX7_explodedAt 110 = .ok (.iload 6, 2) := by decide +kernel
theorem dX7_explodedAt_112 : decode cX7_explodedAt 112 = .ok (.ifCond .ge 8, 3) := by decide +kernel
theorem dX7_explodedAt_115 : decode cX7_explodedAt 115 = .ok (.ldc 176, 2) := by decide +kernel
theorem dX7_explodedAt_117 : decode cX7_explodedAt 117 = .ok (.goto 41, 3) := by decide +kernel
theorem dX7_explodedAt_120 : decode cX7_explodedAt 120 = .ok (.iload 4, 2) := by decide +kernel
theorem dX7_explodedAt_122 : decode cX7_explodedAt 122 = .ok (.ifCond .ne 13, 3) := by decide +kernel
theorem dX7_explodedAt_125 : decode cX7_explodedAt 125 = .ok (.aload_n 0, 1) := by decide +kernel
theorem dX7_explodedAt_126 : decode cX7_explodedAt 126 = .ok (.getfield 28, 3) := by decide +kernel
theorem dX7_explodedAt_129 : decode cX7_explodedAt 129 = .ok (.iload 6, 2) := by decide +kernel
theorem dX7_explodedAt_131 : decode cX7_explodedAt 131 = .ok (.iaload, 1) := by decide +kernel
theorem dX7_explodedAt_132 : decode cX7_explodedAt 132 = .ok (.goto 26, 3) := by decide +kernel
theorem dX7_explodedAt_135 : decode cX7_explodedAt 135 = .ok (.iload 4, 2) := by decide +kernel
theorem dX7_explodedAt_137 : decode cX7_explodedAt 137 = .ok (.iconst 1, 1) := by decide +kernel
theorem dX7_explodedAt_138 : decode cX7_explodedAt 138 = .ok (.if_icmp .ne 13, 3) := by decide +kernel
theorem dX7_explodedAt_141 : decode cX7_explodedAt 141 = .ok (.aload_n 0, 1) := by decide +kernel
theorem dX7_explodedAt_142 : decode cX7_explodedAt 142 = .ok (.getfield 31, 3) := by decide +kernel
theorem dX7_explodedAt_145 : decode cX7_explodedAt 145 = .ok (.iload 6, 2) := by decide +kernel
theorem dX7_explodedAt_147 : decode cX7_explodedAt 147 = .ok (.iaload, 1) := by decide +kernel
theorem dX7_explodedAt_148 : decode cX7_explodedAt 148 = .ok (.goto 10, 3) := by decide +kernel
theorem dX7_explodedAt_151 : decode cX7_explodedAt 151 = .ok (.aload_n 0, 1) := by decide +kernel
theorem dX7_explodedAt_152 : decode cX7_explodedAt 152 = .ok (.getfield 34, 3) := by decide +kernel
theorem dX7_explodedAt_155 : decode cX7_explodedAt 155 = .ok (.iload 6, 2) := by decide +kernel
theorem dX7_explodedAt_157 : decode cX7_explodedAt 157 = .ok (.iaload, 1) := by decide +kernel
theorem dX7_explodedAt_158 : decode cX7_explodedAt 158 = .ok (.ireturn, 1) := by decide +kernel
theorem dX7_sumIn_0 : decode cX7_sumIn 0 = .ok (.iconst 0, 1) := by decide +kernel
theorem dX7_sumIn_1 : decode cX7_sumIn 1 = .ok (.istore_n 3, 1) := by decide +kernel
theorem dX7_sumIn_2 : decode cX7_sumIn 2 = .ok (.iconst 0, 1) := by decide +kernel
theorem dX7_sumIn_3 : decode cX7_sumIn 3 = .ok (.istore 4, 2) := by decide +kernel
theorem dX7_sumIn_5 : decode cX7_sumIn 5 = .ok (.iload 4, 2) := by decide +kernel
theorem dX7_sumIn_7 : decode cX7_sumIn 7 = .ok (.aload_n 0, 1) := by decide +kernel
theorem dX7_sumIn_8 : decode cX7_sumIn 8 = .ok (.getfield 7, 3) := by decide +kernel
theorem dX7_sumIn_11 : decode cX7_sumIn 11 = .ok (.iconst 0, 1) := by decide +kernel
theorem dX7_sumIn_12 : decode cX7_sumIn 12 = .ok (.iaload, 1) := by decide +kernel
theorem dX7_sumIn_13 : decode cX7_sumIn 13 = .ok (.if_icmp .ge 67, 3) := by decide +kernel
theorem dX7_sumIn_16 : decode cX7_sumIn 16 = .ok (.iload_n 2, 1) := by decide +kernel
theorem dX7_sumIn_17 : decode cX7_sumIn 17 = .ok (.ifCond .lt 18, 3) := by decide +kernel
theorem dX7_sumIn_20 : decode cX7_sumIn 20 = .ok (.aload_n 0, 1) := by decide +kernel
theorem dX7_sumIn_21 : decode cX7_sumIn 21 = .ok (.iload_n 2, 1) := by decide +kernel
theorem dX7_sumIn_22 : decode cX7_sumIn 22 = .ok (.aload_n 0, 1) := by decide +kernel
theorem dX7_sumIn_23 : decode cX7_sumIn 23 = .ok (.iload 4, 2) := by decide +kernel
theorem dX7_sumIn_25 : decode cX7_sumIn 25 = .ok (.iconst 0, 1) := by decide +kernel
theorem dX7_sumIn_26 : decode cX7_sumIn 26 = .ok (.invokevirtual 46, 3) := by decide +kernel
theorem dX7_sumIn_29 : decode cX7_sumIn 29 = .ok (.invokevirtual 218, 3) := by decide +kernel
theorem dX7_sumIn_32 : decode cX7_sumIn 32 = .ok (.ifCond .eq 13, 3) := by decide +kernel
theorem dX7_sumIn_35 : decode cX7_sumIn 35 = .ok (.aload_n 0, 1) := by decide +kernel
theorem dX7_sumIn_36 : decode cX7_sumIn 36 = .ok (.iload 4, 2) := by decide +kernel
theorem dX7_sumIn_38 : decode cX7_sumIn 38 = .ok (.iload_n 1, 1) := by decide +kernel
theorem dX7_sumIn_39 : decode cX7_sumIn 39 = .ok (.invokevirtual 221, 3) := by decide +kernel
theorem dX7_sumIn_42 : decode cX7_sumIn 42 = .ok (.goto 4, 3) := by decide +kernel
theorem dX7_sumIn_45 : decode cX7_sumIn 45 = .ok (.iconst 0, 1) := by decide +kernel
theorem dX7_sumIn_46 : decode cX7_sumIn 46 = .ok (.istore 5, 2) := by decide +kernel
theorem dX7_sumIn_48 : decode cX7_sumIn 48 = .ok (.iconst 0, 1) := by decide +kernel
theorem dX7_sumIn_49 : decode cX7_sumIn 49 = .ok (.istore 6, 2) := by decide +kernel
theorem dX7_sumIn_51 : decode cX7_sumIn 51 = .ok (.iload 6, 2) := by decide +kernel
theorem dX7_sumIn_53 : decode cX7_sumIn 53 = .ok (.iload 5, 2) := by decide +kernel
theorem dX7_sumIn_55 : decode cX7_sumIn 55 = .ok (.if_icmp .ge 19, 3) := by decide +kernel
theorem dX7_sumIn_58 : decode cX7_sumIn 58 = .ok (.iload_n 3, 1) := by decide +kernel
theorem dX7_sumIn_59 : decode cX7_sumIn 59 = .ok (.aload_n 0, 1) := by decide +kernel
theorem dX7_sumIn_60 : decode cX7_sumIn 60 = .ok (.getfield 25, 3) := by decide +kernel
theorem dX7_sumIn_63 : decode cX7_sumIn 63 = .ok (.iload 6, 2) := by decide +kernel
theorem dX7_sumIn_65 : decode cX7_sumIn 65 = .ok (.iaload, 1) := by decide +kernel
theorem dX7_sumIn_66 : decode cX7_sumIn 66 = .ok (.iadd, 1) := by decide +kernel
theorem dX7_sumIn_67 : decode cX7_sumIn 67 = .ok (.istore_n 3, 1) := by decide +kernel
theorem dX7_sumIn_68 : decode cX7_sumIn 68 = .ok (.iinc 6 1, 3) := by decide +kernel
theorem dX7_sumIn_71 : decode cX7_sumIn 71 = .ok (.goto (-20), 3) := by decide +kernel
theorem dX7_sumIn_74 : decode cX7_sumIn 74 = .ok (.iinc 4 1, 3) := by decide +kernel
theorem dX7_sumIn_77 : decode cX7_sumIn 77 = .ok (.goto (-72), 3) := by decide +kernel
theorem dX7_sumIn_80 : decode cX7_sumIn 80 = .ok (.iload_n 3, 1) := by decide +kernel
theorem dX7_sumIn_81 : decode cX7_sumIn 81 = .ok (.ireturn, 1) := by decide +kernel
theorem dX7_total_0 : decode cX7_total 0 = .ok (.iload_n 1, 1) := by decide +kernel
theorem dX7_total_1 : decode cX7_total 1 = .ok (.invokestatic 215, 3) := by decide +kernel
theorem dX7_total_4 : decode cX7_total 4 = .ok (.ifCond .eq 24, 3) := by decide +kernel
theorem dX7_total_7 : decode cX7_total 7 = .ok (.iload_n 2, 1) := by decide +kernel
theorem dX7_total_8 : decode cX7_total 8 = .ok (.iconst (-1), 1) := by decide +kernel
theorem dX7_total_9 : decode cX7_total 9 = .ok (.if_icmp .eq 10, 3) := by decide +kernel
theorem dX7_total_12 : decode cX7_total 12 = .ok (.iload_n 2, 1) := by decide +kernel
theorem dX7_total_13 : decode cX7_total 13 = .ok (.invokestatic 227, 3) := by decide +kernel
theorem dX7_total_16 : decode cX7_total 16 = .ok (.ifCond .eq 12, 3) := by decide +kernel
theorem dX7_total_19 : decode cX7_total 19 = .ok (.aload_n 0, 1) := by decide +kernel
theorem dX7_total_20 : decode cX7_total 20 = .ok (.iload_n 1, 1) := by decide +kernel
theorem dX7_total_21 : decode cX7_total 21 = .ok (.iload_n 2, 1) := by decide +kernel
theorem dX7_total_22 : decode cX7_total 22 = .ok (.invokevirtual 267, 3) := by decide +kernel
theorem dX7_total_25 : decode cX7_total 25 = .ok (.goto 5, 3) := by decide +kernel
theorem dX7_total_28 : decode cX7_total 28 = .ok (.ldc 41, 2) := by decide +kernel
theorem dX7_total_30 : decode cX7_total 30 = .ok (.ireturn, 1) := by decide +kernel
theorem dX7_mean_0 : decode cX7_mean 0 = .ok (.iload_n 1, 1) := by decide +kernel
theorem dX7_mean_1 : decode cX7_mean 1 = .ok (.invokestatic 215, 3) := by decide +kernel
theorem dX7_mean_4 : decode cX7_mean 4 = .ok (.ifCond .ne 7, 3) := by decide +kernel
theorem dX7_mean_7 : decode cX7_mean 7 = .ok (.ldc_w 270, 3) := by decide +kernel
theorem dX7_mean_10 : decode cX7_mean 10 = .ok (.freturn, 1) := by decide +kernel
theorem dX7_mean_11 : decode cX7_mean 11 = .ok (.aload_n 0, 1) := by decide +kernel
theorem dX7_mean_12 : decode cX7_mean 12 = .ok (.iload_n 1, 1) := by decide +kernel
theorem dX7_mean_13 : decode cX7_mean 13 = .ok (.invokevirtual 260, 3) := by decide +kernel
theorem dX7_mean_16 : decode cX7_mean 16 = .ok (.istore_n 2, 1) := by decide +kernel
theorem dX7_mean_17 : decode cX7_mean 17 = .ok (.iload_n 2, 1) := by decide +kernel
theorem dX7_mean_18 : decode cX7_mean 18 = .ok (.ifCond .ne 7, 3) := by decide +kernel
theorem dX7_mean_21 : decode cX7_mean 21 = .ok (.fconst 0, 1) := by decide +kernel
theorem dX7_mean_22 : decode cX7_mean 22 = .ok (.goto 13, 3) := by decide +kernel
theorem dX7_mean_25 : decode cX7_mean 25 = .ok (.aload_n 0, 1) := by decide +kernel
theorem dX7_mean_26 : decode cX7_mean 26 = .ok (.iload_n 1, 1) := by decide +kernel
theorem dX7_mean_27 : decode cX7_mean 27 = .ok (.iconst (-1), 1) := by decide +kernel
theorem dX7_mean_28 : decode cX7_mean 28 = .ok (.invokevirtual 267, 3) := by decide +kernel
theorem dX7_mean_31 : decode cX7_mean 31 = .ok (.i2f, 1) := by decide +kernel
theorem dX7_mean_32 : decode cX7_mean 32 = .ok (.iload_n 2, 1) := by decide +kernel
theorem dX7_mean_33 : decode cX7_mean 33 = .ok (.i2f, 1) := by decide +kernel
theorem dX7_mean_34 : decode cX7_mean 34 = .ok (.fdiv, 1) := by decide +kernel
theorem dX7_mean_35 : decode cX7_mean 35 = .ok (.freturn, 1) := by decide +kernel
theorem dX7_repeated_0 : decode cX7_repeated 0 = .ok (.iload_n 1, 1) := by decide +kernel
theorem dX7_repeated_1 : decode cX7_repeated 1 = .ok (.invokestatic 215, 3) := by decide +kernel
theorem dX7_repeated_4 : decode cX7_repeated 4 = .ok (.ifCond .ne 6, 3) := by decide +kernel
theorem dX7_repeated_7 : decode cX7_repeated 7 = .ok (.ldc 41, 2) := by decide +kernel
theorem dX7_repeated_9 : decode cX7_repeated 9 = .ok (.ireturn, 1) := by decide +kernel
theorem dX7_repeated_10 : decode cX7_repeated 10 = .ok (.aload_n 0, 1) := by decide +kernel
theorem dX7_repeated_11 : decode cX7_repeated 11 = .ok (.iload_n 1, 1) := by decide +kernel
theorem dX7_repeated_12 : decode cX7_repeated 12 = .ok (.invokevirtual 260, 3) := by decide +kernel
theorem dX7_repeated_15 : decode cX7_repeated 15 = .ok (.istore_n 2, 1) := by decide +kernel
theorem dX7_repeated_16 : decode cX7_repeated 16 = .ok (.iconst 0, 1) := by decide +kernel
theorem dX7_repeated_17 : decode cX7_repeated 17 = .ok (.istore_n 3, 1) := by decide +kernel
theorem dX7_repeated_18 : decode cX7_repeated 18 = .ok (.iconst 0, 1) := by decide +kernel
theorem dX7_repeated_19 : decode cX7_repeated 19 = .ok (.istore 4, 2) := by decide +kernel
theorem dX7_repeated_21 : decode cX7_repeated 21 = .ok (.iload 4, 2) := by decide +kernel
theorem dX7_repeated_23 : decode cX7_repeated 23 = .ok (.iload_n 2, 1) := by decide +kernel
theorem dX7_repeated_24 : decode cX7_repeated 24 = .ok (.if_icmp .ge 116, 3) := by decide +kernel
theorem dX7_repeated_27 : decode cX7_repeated 27 = .ok (.iconst 0, 1) := by decide +kernel
theorem dX7_repeated_28 : decode cX7_repeated 28 = .ok (.istore 5, 2) := by decide +kernel
theorem dX7_repeated_30 : decode cX7_repeated 30 = .ok (.iconst 0, 1) := by decide +kernel
theorem dX7_repeated_31 : decode cX7_repeated 31 = .ok (.istore 6, 2) := by decide +kernel
theorem dX7_repeated_33 : decode cX7_repeated 33 = .ok (.iconst 0, 1) := by decide +kernel
theorem dX7_repeated_34 : decode cX7_repeated 34 = .ok (.istore 7, 2) := by decide +kernel
theorem dX7_repeated_36 : decode cX7_repeated 36 = .ok (.iload 7, 2) := by decide +kernel
theorem dX7_repeated_38 : decode cX7_repeated 38 = .ok (.iload_n 2, 1) := by decide +kernel
theorem dX7_repeated_39 : decode cX7_repeated 39 = .ok (.if_icmp .ge 77, 3) := by decide +kernel
theorem dX7_repeated_42 : decode cX7_repeated 42 = .ok (.iload 5, 2) := by decide +kernel
theorem dX7_repeated_44 : decode cX7_repeated 44 = .ok (.iload 7, 2) := by decide +kernel
theorem dX7_repeated_46 : decode cX7_repeated 46 = .ok (.iload 4, 2) := by decide +kernel
theorem dX7_repeated_48 : decode cX7_repeated 48 = .ok (.if_icmp .ge 24, 3) := by decide +kernel
theorem dX7_repeated_51 : decode cX7_repeated 51 = .ok (.aload_n 0, 1) := by decide +kernel
theorem dX7_repeated_52 : decode cX7_repeated 52 = .ok (.getfield 28, 3) := by decide +kernel
theorem dX7_repeated_55 : decode cX7_repeated 55 = .ok (.iload 7, 2) := by decide +kernel
theorem dX7_repeated_57 : decode cX7_repeated 57 = .ok (.iaload, 1) := by decide +kernel
theorem dX7_repeated_58 : decode cX7_repeated 58 = .ok (.aload_n 0, 1) := by decide +kernel
theorem dX7_repeated_59 : decode cX7_repeated 59 = .ok (.getfield 28, 3) := by decide +kernel
theorem dX7_repeated_62 : decode cX7_repeated 62 = .ok (.iload 4, 2) := by decide +kernel
theorem dX7_repeated_64 : decode cX7_repeated 64 = .ok (.iaload, 1) := by decide +kernel
theorem dX7_repeated_65 : decode cX7_repeated 65 = .ok (.if_icmp .ne 7, 3) := by decide +kernel
theorem dX7_repeated_68 : decode cX7_repeated 68 = .ok (.iconst 1, 1) := by decide +kernel
theorem dX7_repeated_69 : decode cX7_repeated 69 = .ok (.goto 4, 3) := by decide +kernel
theorem dX7_repeated_72 : decode cX7_repeated 72 = .ok (.iconst 0, 1) := by decide +kernel
theorem dX7_repeated_73 : decode cX7_repeated 73 = .ok (.iadd, 1) := by decide +kernel
theorem dX7_repeated_74 : decode cX7_repeated 74 = .ok (.istore 5, 2) := by decide +kernel
theorem dX7_repeated_76 : decode cX7_repeated 76 = .ok (.iload 6, 2) := by decide +kernel
theorem dX7_repeated_78 : decode cX7_repeated 78 = .ok (.iload 7, 2) := by decide +kernel
theorem dX7_repeated_80 : decode cX7_repeated 80 = .ok (.iload 4, 2) := by decide +kernel
theorem dX7_repeated_82 : decode cX7_repeated 82 = .ok (.if_icmp .le 24, 3) := by decide +kernel
theorem dX7_repeated_85 : decode cX7_repeated 85 = .ok (.aload_n 0, 1) := by decide +kernel
theorem dX7_repeated_86 : decode cX7_repeated 86 = .ok (.getfield 28, 3) := by decide +kernel
theorem dX7_repeated_89 : decode cX7_repeated 89 = .ok (.iload 7, 2) := by decide +kernel
theorem dX7_repeated_91 : decode cX7_repeated 91 = .ok (.iaload, 1) := by decide +kernel
theorem dX7_repeated_92 : decode cX7_repeated 92 = .ok (.aload_n 0, 1) := by decide +kernel
theorem dX7_repeated_93 : decode cX7_repeated 93 = .ok (.getfield 28, 3) := by decide +kernel
theorem dX7_repeated_96 : decode cX7_repeated 96 = .ok (.iload 4, 2) := by decide +kernel
theorem dX7_repeated_98 : decode cX7_repeated 98 = .ok (.iaload, 1) := by decide +kernel
theorem dX7_repeated_99 : decode cX7_repeated 99 = .ok (.if_icmp .ne 7, 3) := by decide +kernel
theorem dX7_repeated_102 : decode cX7_repeated 102 = .ok (.iconst 1, 1) := by decide +kernel
theorem dX7_repeated_103 : decode cX7_repeated 103 = .ok (.goto 4, 3) := by decide +kernel
theorem dX7_repeated_106 : decode cX7_repeated 106 = .ok (.iconst 0, 1) := by decide +kernel
theorem dX7_repeated_107 : decode cX7_repeated 107 = .ok (.iadd, 1) := by decide +kernel
theorem dX7_repeated_108 : decode cX7_repeated 108 = .ok (.istore 6, 2) := by decide +kernel
theorem dX7_repeated_110 : decode cX7_repeated 110 = .ok (.iinc 7 1, 3) := by decide +kernel
theorem dX7_repeated_113 : decode cX7_repeated 113 = .ok (.goto (-77), 3) := by decide +kernel
theorem dX7_repeated_116 : decode cX7_repeated 116 = .ok (.iload_n 3, 1) := by decide +kernel
theorem dX7_repeated_117 : decode cX7_repeated 117 = .ok (.iload 5, 2) := by decide +kernel
theorem dX7_repeated_119 : decode cX7_repeated 119 = .ok (.ifCond .ne 12, 3) := by decide +kernel
theorem dX7_repeated_122 : decode cX7_repeated 122 = .ok (.iload 6, 2) := by decide +kernel
theorem dX7_repeated_124 : decode cX7_repeated 124 = .ok (.ifCond .le 7, 3) := by decide +kernel
theorem dX7_repeated_127 : decode cX7_repeated 127 = .ok (.iconst 1, 1) := by decide +kernel
theorem dX7_repeated_128 : decode cX7_repeated 128 = .ok (.goto 4, 3) := by decide +kernel
theorem dX7_repeated_131 : decode cX7_repeated 131 = .ok (.iconst 0, 1) := by decide +kernel
theorem dX7_repeated_132 : decode cX7_repeated 132 = .ok (.iadd, 1) := by decide +kernel
theorem dX7_repeated_133 : decode cX7_repeated 133 = .ok (.istore_n 3, 1) := by decide +kernel
theorem dX7_repeated_134 : decode cX7_repeated 134 = .ok (.iinc 4 1, 3) := by decide +kernel
theorem dX7_repeated_137 : decode cX7_repeated 137 = .ok (.goto (-116), 3) := by decide +kernel
theorem dX7_repeated_140 : decode cX7_repeated 140 = .ok (.iload_n 3, 1) := by decide +kernel
theorem dX7_repeated_141 : decode cX7_repeated 141 = .ok (.ireturn, 1) := by decide +kernel
end
section
/-! MEMORY: the class's object graph and the reference's arrays as one function of (cell, place); a cell's number is its place in the order of making. jI: an int's machine word. -/
abbrev jM : Type := Int → Int → Int
abbrev jG : Type := va_G × (ClassId × ClassId × ClassId × ClassId × ClassId) × Nat
def jI (a : Int) : Int32 := Int32.ofInt a
abbrev jR (a : Int) : Prop := -2147483648 ≤ a ∧ a < 2147483648
def jW (a : Int) : Int := (a + 2147483648) % 4294967296 - 2147483648
def jU (M : jM) (c i v : Int) : jM := fun c' i' => if c' = c ∧ i' = i then v else M c' i'
def jC (M : jM) (s sp d dp n : Int) : jM := fun c' i' => if c' = d ∧ dp ≤ i' ∧ i' < dp + n then M s (sp + (i' - dp)) else M c' i'
def jL {α : Type} (e : α) (k : α → Prop) : Prop := k e
def jAnd (a b : Int) : Int := (jI a &&& jI b).toInt
def jOr (a b : Int) : Int := (jI a ||| jI b).toInt
def jXor (a b : Int) : Int := (jI a ^^^ jI b).toInt
def jShl (a b : Int) : Int := (jI a <<< (jI b &&& 31)).toInt
def jShr (a b : Int) : Int := (jI a >>> (jI b &&& 31)).toInt
def jDiv (a b : Int) : Int := (jI a / jI b).toInt
def jRem (a b : Int) : Int := (jI a - jI a / jI b * jI b).toInt
def jMax (a b : Int) : Int := if a < b then b else a
def jMin (a b : Int) : Int := if b < a then b else a
def jAbs (a : Int) : Int := if 0 ≤ a then a else jW (0 - a)
def jChr (a : Int) : Int := a % 65536
/-! a cell's kind: 1 ExplodedList, 2 FileRecord, 3 Sequence, 4 Signs, 5 State, 6 TextReader, 7 MultiValueFile, 8 the reference; 10000 + n: ints, 20000 + n: booleans, 30000 + n: characters, 40000 + n: records, 50000 + n: states -/
def jKs (d : Int) : Int := if d = 0 then 5 else if d = 1 then 40010 else if d < 42 then (if (d - 2) % 4 = 0 then 2 else if (d - 2) % 4 = 1 then 10004 else if (d - 2) % 4 = 2 then 10020 else 10080) else if d = 42 then 20004 else if d < 46 then 10006 else 20800
def jK (c : Int) : Int := if c < 0 then 0 else if c = 0 then 7 else if c < 48 then jKs (c - 1) else if c = 48 then 50004 else if c < 237 then jKs ((c - 49) % 47) else if c = 237 then 4 else if c = 238 then 30090 else if c = 239 then 4 else if c = 240 then 30400
  else if c = 241 then 6 else if c = 242 then 2 else if c = 243 then 10004 else if c = 244 then 10020 else if c = 245 then 10080 else if c = 246 then 3 else if c = 247 then 10020 else if c = 248 then 1 else if c < 252 then 10200
  else if c = 252 then 8 else if c < 255 then 11115 else if c = 255 then 14460 else if c = 256 then 10090 else if c = 257 then 10500 else if c = 258 then 10020 else if c < 262 then 10200 else 0
def jZ (c i : Int) : Prop := jK c / 10000 = 2 ∨ (jK c = 1 ∧ i = 4) ∨ (jK c = 6 ∧ i = 4) ∨ (jK c = 8 ∧ i = 9)
def jV (c i v : Int) : Prop := jR v ∧ (jZ c i → v = 0 ∨ v = 1) ∧ (jK c / 10000 = 3 → 0 ≤ v ∧ v < 65536) ∧ (jK c / 10000 = 4 → jK v = 2) ∧ (jK c / 10000 = 5 → jK v = 5)
def jOK (M : jM) : Prop := ∀ c i, jV c i (M c i)
theorem jW_R (a : Int) : jR (jW a) := by unfold jW; constructor <;> omega
theorem jW_id {a : Int} (h : jR a) : jW a = a := by unfold jW; omega
theorem jI_W (a : Int) : jI (jW a) = jI a := by
  apply Int32.toInt_inj.mp
  unfold jI
  rw [Int32.toInt_ofInt, Int32.toInt_ofInt]
  unfold jW
  rw [Int.bmod_def, Int.bmod_def, show ((Int32.size : Nat) : Int) = 4294967296 from rfl]
  split <;> split <;> omega
theorem jI_toInt {a : Int} (h : jR a) : (jI a).toInt = a := by
  unfold jI
  rw [Int32.toInt_ofInt, Int.bmod_def, show ((Int32.size : Nat) : Int) = 4294967296 from rfl]
  split <;> omega
theorem jI_of (x : Int32) : jI x.toInt = x := Int32.ofInt_toInt x
theorem jR_of (x : Int32) : jR x.toInt := ⟨Int32.le_toInt x, Int32.toInt_lt x⟩
theorem jI_add (a b : Int) : jI a + jI b = jI (jW (a + b)) := by rw [jI_W]; exact (Int32.ofInt_add a b).symm
theorem jI_sub (a b : Int) : jI a - jI b = jI (jW (a - b)) := by rw [jI_W]; exact (Int32.ofInt_sub a b).symm
theorem jI_mul (a b : Int) : jI a * jI b = jI (jW (a * b)) := by rw [jI_W]; exact (Int32.ofInt_mul a b).symm
theorem jI_neg (a : Int) : -jI a = jI (jW (-a)) := by rw [jI_W]; exact (Int32.ofInt_neg a).symm
theorem jI_lt {a b : Int} (ha : jR a) (hb : jR b) : jI a < jI b ↔ a < b := by rw [Int32.lt_iff_toInt_lt, jI_toInt ha, jI_toInt hb]
theorem jI_le {a b : Int} (ha : jR a) (hb : jR b) : jI a ≤ jI b ↔ a ≤ b := by rw [Int32.le_iff_toInt_le, jI_toInt ha, jI_toInt hb]
theorem jI_eq {a b : Int} (ha : jR a) (hb : jR b) : jI a = jI b ↔ a = b := by rw [← Int32.toInt_inj, jI_toInt ha, jI_toInt hb]
theorem jI_cl {a : Int} (h : jR a) : (jI a).toNatClampNeg = a.toNat := by
  show (jI a).toInt.toNat = _
  rw [jI_toInt h]
theorem jI_in {a : Int} {n : Nat} (h : 0 ≤ a ∧ a < (n : Int)) (h2 : jR a) : vp_in (jI a) n := vp_in_iff.mpr (by rw [jI_toInt h2]; exact h)
theorem jAnd_R (a b : Int) : jR (jAnd a b) := jR_of _
theorem jOr_R (a b : Int) : jR (jOr a b) := jR_of _
theorem jXor_R (a b : Int) : jR (jXor a b) := jR_of _
theorem jShl_R (a b : Int) : jR (jShl a b) := jR_of _
theorem jShr_R (a b : Int) : jR (jShr a b) := jR_of _
theorem jDiv_R (a b : Int) : jR (jDiv a b) := jR_of _
theorem jRem_R (a b : Int) : jR (jRem a b) := jR_of _
theorem jMax_R {a b : Int} (ha : jR a) (hb : jR b) : jR (jMax a b) := by unfold jMax; split <;> assumption
theorem jMin_R {a b : Int} (ha : jR a) (hb : jR b) : jR (jMin a b) := by unfold jMin; split <;> assumption
theorem jAbs_R {a : Int} (ha : jR a) : jR (jAbs a) := by unfold jAbs; split; exact ha; exact jW_R _
theorem jChr_R (a : Int) : jR (jChr a) := by unfold jChr; constructor <;> omega
theorem jI_max {a b : Int} (ha : jR a) (hb : jR b) : (if jI a < jI b then jI b else jI a) = jI (jMax a b) := by
  unfold jMax
  by_cases h : a < b
  · rw [if_pos h, if_pos ((jI_lt ha hb).mpr h)]
  · rw [if_neg h, if_neg (fun q => h ((jI_lt ha hb).mp q))]
theorem jI_min {a b : Int} (ha : jR a) (hb : jR b) : (if jI b < jI a then jI b else jI a) = jI (jMin a b) := by
  unfold jMin
  by_cases h : b < a
  · rw [if_pos h, if_pos ((jI_lt hb ha).mpr h)]
  · rw [if_neg h, if_neg (fun q => h ((jI_lt hb ha).mp q))]
theorem jI_abs {a : Int} (ha : jR a) : (if 0 ≤ jI a then jI a else 0 - jI a) = jI (jAbs a) := by
  unfold jAbs
  rw [show (0 : Int32) = jI 0 from rfl]
  by_cases h : 0 ≤ a
  · rw [if_pos h, if_pos ((jI_le (by decide : jR 0) ha).mpr h)]
  · rw [if_neg h, if_neg (fun q => h ((jI_le (by decide : jR 0) ha).mp q)), jI_sub]
theorem jI_chr (a : Int) : ((jI a).toUInt32 % 65536).toInt32 = jI (jChr a) := by
  rw [pk_char]
  apply Int32.toInt_inj.mp
  have h1 : jR (((jI a).toBitVec.toNat % 65536 : Nat) : Int) := ⟨by omega, by omega⟩
  show (jI (((jI a).toBitVec.toNat % 65536 : Nat) : Int)).toInt = _
  rw [jI_toInt h1, jI_toInt (jChr_R a)]
  unfold jChr jI
  have h2 : (Int32.ofInt a).toBitVec = BitVec.ofInt 32 a := rfl
  rw [h2, BitVec.toNat_ofInt]
  omega
theorem jU_ok {M : jM} {c i v : Int} (h : jOK M) (hv : jV c i v) : jOK (jU M c i v) := by
  intro c' i'
  unfold jU
  split
  · next q => rw [q.1, q.2]; exact hv
  · exact h c' i'
/-- a word of an int-like place: a plain int field, an int array -/
theorem jV_i {c i v : Int} (hv : jR v) (hz : ¬ jZ c i) (h3 : jK c < 30000) : jV c i v := ⟨hv, fun h => absurd h hz, fun h => by omega, fun h => by omega, fun h => by omega⟩
theorem jV_z {c i v : Int} (hv : v = 0 ∨ v = 1) (h3 : jK c < 30000) : jV c i v := ⟨by rcases hv with rfl | rfl <;> decide, fun _ => hv, fun h => by omega, fun h => by omega, fun h => by omega⟩
theorem jV_c {c i v : Int} (hv : 0 ≤ v ∧ v < 65536) (h3 : jK c / 10000 = 3) : jV c i v := ⟨⟨by omega, by omega⟩, fun h => by unfold jZ at h; omega, fun _ => hv, fun h => by omega, fun h => by omega⟩
theorem jV_r {c i v : Int} (hr : jR v) (hv : jK v = 2) (h3 : jK c / 10000 = 4) : jV c i v := ⟨hr, fun h => by unfold jZ at h; omega, fun h => by omega, fun _ => hv, fun h => by omega⟩
theorem jV_s {c i v : Int} (hr : jR v) (hv : jK v = 5) (h3 : jK c / 10000 = 5) : jV c i v := ⟨hr, fun h => by unfold jZ at h; omega, fun h => by omega, fun h => by omega, fun _ => hv⟩
/-- a fact of all cells, by looking at each -/
theorem jK_in {c : Int} (h : jK c ≠ 0) : ∃ n : Nat, n < 262 ∧ c = (n : Int) := by
  have h1 : 0 ≤ c ∧ c < 262 := by unfold jK at h; omega
  exact ⟨c.toNat, by omega, by omega⟩
theorem jK_R {c : Int} (h : jK c ≠ 0) : jR c := by
  obtain ⟨n, h1, h2⟩ := jK_in h
  omega
theorem jK_nn {c : Int} (h : jK c ≠ 0) : ¬ c < 0 := by
  obtain ⟨n, h1, h2⟩ := jK_in h
  omega
theorem jK_all {P : Int → Bool} (h : (List.range 262).all (fun n => P (n : Int)) = true) {c : Int} (hc : jK c ≠ 0) : P c = true := by
  obtain ⟨n, h1, h2⟩ := jK_in hc
  rw [h2]
  exact List.all_eq_true.mp h n (List.mem_range.mpr h1)
end
section
/-! the words: one list for every method (those that go down with every call) -/
def tb : List Cond := lw_tbl.filter goodWord
def wsG (y : MethodName) (b : ByteArray) (n : Nat) (r : Option FieldType) : List Cond := .code y b n r :: tb
theorem tb_mem {w : Cond} (h : w ∈ tables_1) (hg : goodWord w = true) : w ∈ tb := List.mem_filter.mpr ⟨List.mem_append_right _ h, hg⟩
theorem tb_sel {w : Cond} (h : w ∈ k2_sels lw_privs) (hg : goodWord w = true) : w ∈ tb := List.mem_filter.mpr ⟨List.mem_append_left _ h, hg⟩
theorem tb_good : GoodIn tb tb := fun w h => ⟨h, good_of_word (List.mem_filter.mp h).2⟩
theorem wsG_good {y : MethodName} {b : ByteArray} {n : Nat} {r : Option FieldType} (h : Cond.code y b n r ∈ tb) : GoodIn tb (wsG y b n r) := by
  intro w hw
  rcases List.mem_cons.mp hw with rfl | hw
  · exact ⟨h, good_of_word (List.mem_filter.mp h).2⟩
  · exact tb_good w hw
/-! the world -/
def gT (G : jG) : List (ClassId × FieldType) := [(G.2.1.1, .int), (G.2.1.2.1, .boolean), (G.2.1.2.2.1, .char), (G.2.1.2.2.2.1, .object RX1), (G.2.1.2.2.2.2, .object RX4)]
def jD (G : jG) (c : Int) : Nat := G.2.2 + c.toNat
def jE (G : jG) (M : jM) (c : Int) : va_E :=
  if jK c = 1 then .inr (0, [.ref (jD G (c + 1)), .ref (jD G (c + 2)), .ref (jD G (c + 3)), .int (jI (M c 3)), .int (jI (M c 4))])
  else if jK c = 2 then .inr (1, [.int (jI (M c 0)), .int (jI (M c 1)), .ref (jD G (c + 1)), .ref (jD G (c + 2)), .ref (jD G (c + 3))])
  else if jK c = 3 then .inr (2, [.ref (jD G (c + 1)), .int (jI (M c 1))])
  else if jK c = 4 then .inr (3, [.ref (jD G (c + 1)), .int (jI (M c 1))])
  else if jK c = 5 then .inr (4, [.ref (jD G (c + 1)), .int (jI (M c 1)), .ref (jD G (c + 42)), .ref (jD G (c + 43)), .ref (jD G (c + 44)), .ref (jD G (c + 45)), .ref (jD G (c + 46))])
  else if jK c = 6 then .inr (5, [.ref (jD G (c + 1)), .int (jI (M c 1)), .int (jI (M c 2)), .int (jI (M c 3)), .int (jI (M c 4))])
  else if jK c = 7 then .inr (6, [.ref (jD G (c + 1)), .ref (jD G (c + 48)), .int (jI (M c 2)), .ref (jD G (c + 237)), .ref (jD G (c + 239)), .ref (jD G (c + 241)), .ref (jD G (c + 246)), .ref (jD G (c + 248))])
  else if jK c = 8 then .inr (7, [.ref (jD G (c + 1)), .ref (jD G (c + 2)), .ref (jD G (c + 3)), .int (jI (M c 3)), .ref (jD G (c + 4)), .int (jI (M c 5)), .ref (jD G (c + 5)), .int (jI (M c 7)), .int (jI (M c 8)), .int (jI (M c 9)), .ref (jD G (c + 6)), .int (jI (M c 11)), .ref (jD G (c + 7)), .ref (jD G (c + 8)), .ref (jD G (c + 9))])
  else if jK c / 10000 = 1 then .inl (G.2.1.1, (jK c % 10000).toNat, .inl (fun j => jI (M c j)))
  else if jK c / 10000 = 2 then .inl (G.2.1.2.1, (jK c % 10000).toNat, .inl (fun j => jI (M c j)))
  else if jK c / 10000 = 3 then .inl (G.2.1.2.2.1, (jK c % 10000).toNat, .inl (fun j => jI (M c j)))
  else if jK c / 10000 = 4 then .inl (G.2.1.2.2.2.1, (jK c % 10000).toNat, .inr (.inr (.inr (.inr (fun j => some (jD G (M c j)))))))
  else .inl (G.2.1.2.2.2.2, (jK c % 10000).toNat, .inr (.inr (.inr (.inr (fun j => some (jD G (M c j)))))))
def gW (G : jG) (M : jM) : va_W := (List.range 262).map (fun n : Nat => (jD G (n : Int), jE G M (n : Int)))
def gA (G : jG) : Nat → Prop := fun q => G.2.2 ≤ q ∧ q < G.2.2 + 262
theorem jE_congr {G : jG} {M M' : jM} {c : Int} (h : M' c = M c) : jE G M' c = jE G M c := by unfold jE; rw [h]
theorem gW_get {G : jG} {M : jM} {c : Int} (h : jK c ≠ 0) : (gW G M)[c.toNat]? = some (jD G c, jE G M c) := by
  obtain ⟨n, h1, rfl⟩ := jK_in h
  simp [gW, h1]
theorem gW_set {G : jG} {M M' : jM} {c : Int} (h : jK c ≠ 0) (hM : ∀ x, x ≠ c → M' x = M x) : (gW G M).set c.toNat (jD G c, jE G M' c) = gW G M' := by
  obtain ⟨n, h1, rfl⟩ := jK_in h
  apply List.ext_getElem?
  intro k
  rw [List.getElem?_set]
  by_cases hk : k < 262
  · by_cases e : n = k
    · subst e
      simp [gW, h1]
    · have h2 : ¬ ((n : Int)).toNat = k := by omega
      rw [if_neg h2]
      simp only [gW, List.getElem?_map, List.getElem?_range hk, Option.map_some]
      rw [jE_congr (hM (k : Int) (by omega))]
  · have h2 : ¬ ((n : Int)).toNat = k := by omega
    rw [if_neg h2]
    simp [gW, hk]
theorem gW_D {G : jG} {M : jM} : va_D (gA G) (gW G M) := by
  have key : ∀ (k : Nat) (q : Nat × va_E), (gW G M)[k]? = some q → k < 262 ∧ q.1 = G.2.2 + k := by
    intro k q hq
    by_cases hk : k < 262
    · simp only [gW, List.getElem?_map, List.getElem?_range hk, Option.map_some, Option.some.injEq] at hq
      rw [← hq]
      exact ⟨hk, rfl⟩
    · simp [gW, hk] at hq
  refine ⟨fun i j p q hi hj e => ?_, fun k q hk => ?_⟩
  · have a := (key i p hi).2
    have b := (key j q hj).2
    omega
  · obtain ⟨a, b⟩ := key k q hk
    unfold gA
    omega
/-! what holds of the tables; of the machine at a method; of the heap -/
def KK (G : jG) (U : State) : Prop := va_K G.1 vwCl (gT G) U ∧ va_Nw (.methodLinkNest RX1 42 yX6_isBelow RX6) U ∧ va_Nw (.methodLinkNest RX3 27 yX6_isBelow RX6) U ∧ va_Nw (.methodLinkNest RX2 19 yX6_isBelow RX6) U
theorem KK.warm {G : jG} {s U : State} (hW : s.WarmedH U.vm) (h : KK G s) : KK G U := ⟨va_K.moved hW.alike h.1, va_Nw.warmM hW h.2.1, va_Nw.warmM hW h.2.2.1, va_Nw.warmM hW h.2.2.2⟩
theorem KK.same {G : jG} {u U : State} (hv : u.vm = U.vm) (h : KK G u) : KK G U := ⟨va_K.moved (by rw [hv]; exact Vm.Alike.refl _) h.1, va_Nw.same rfl hv h.2.1, va_Nw.same rfl hv h.2.2.1, va_Nw.same rfl hv h.2.2.2⟩
def Cx (G : jG) (p : Program) (s : State) (args : Array Value) (m : MethodId) (c : Code) (cc : ByteArray) (nL : Nat) (own : String) : Prop := p.tables.exec = Jvm.exec ∧ c.code = cc ∧ c.maxLocals = nL ∧ s.vm.findClass own = some m.cls ∧ (∀ w ∈ tb, w.before args s = true) ∧ KK G s
def Hp (G : jG) (M : jM) (H0 H : Heap) (locs : List Loc) : Prop := va_P G.1 vwCl (gW G M) H ∧ va_S (gA G) H0 H locs ∧ jOK M
def jPc (G : jG) (M : jM) (av : List Value) : Array Value → State → Prop := va_Pc av (fun U => va_P G.1 vwCl (gW G M) U.heap ∧ KK G U)
theorem jPc_blind {G : jG} {M : jM} {av : List Value} : FrameBlind (jPc G M av) := fun a U g mk q => ⟨q.1, q.2.1, KK.same (u := U) (U := U.calling g mk a) rfl q.2.2⟩
def qI (G : jG) (k : Int → jM → Prop) : Array Value → State → Outcome → State → Prop := va_Qi (fun (r : Int32) (u : Int × jM) => r = jI u.1 ∧ jR u.1 ∧ k u.1 u.2 ∧ jOK u.2) (fun u t => va_P G.1 vwCl (gW G u.2) t.heap) (gA G)
def qZ (G : jG) (k : Int → jM → Prop) : Array Value → State → Outcome → State → Prop := va_Qi (fun (r : Int32) (u : Int × jM) => r = jI u.1 ∧ (u.1 = 0 ∨ u.1 = 1) ∧ k u.1 u.2 ∧ jOK u.2) (fun u t => va_P G.1 vwCl (gW G u.2) t.heap) (gA G)
def qV (G : jG) (k : jM → Prop) : Array Value → State → Outcome → State → Prop := va_Qv (fun (u : jM) => k u ∧ jOK u) (fun u t => va_P G.1 vwCl (gW G u) t.heap) (gA G)
def qQ (G : jG) (k : Int → jM → Prop) : Array Value → State → Outcome → State → Prop := va_Qq (fun (r : Option Nat) (u : Int × jM) => r = (if u.1 < 0 then none else some (jD G u.1)) ∧ (u.1 < 0 ∨ jK u.1 = 2) ∧ k u.1 u.2 ∧ jOK u.2) (fun u t => va_P G.1 vwCl (gW G u.2) t.heap) (gA G)
/-- a reference that may be null -/
def jN (G : jG) (c : Int) : Value := va_rf (if c < 0 then none else some (jD G c))
theorem jN_null {G : jG} {c : Int} (h : c < 0) : jN G c = .null := by unfold jN; rw [if_pos h]; rfl
theorem jN_ref {G : jG} {c : Int} (h : ¬ c < 0) : jN G c = .ref (jD G c) := by unfold jN; rw [if_neg h]; rfl
theorem zR {v : Int} (h : v = 0 ∨ v = 1) : jR v := by rcases h with rfl | rfl <;> decide
end
section
/-! cells by kind -/
theorem jE1 {G : jG} {M : jM} {c : Int} (h : jK c = 1) : jE G M c = .inr (0, [.ref (jD G (c + 1)), .ref (jD G (c + 2)), .ref (jD G (c + 3)), .int (jI (M c 3)), .int (jI (M c 4))]) := by simp [jE, h]
theorem jE2 {G : jG} {M : jM} {c : Int} (h : jK c = 2) : jE G M c = .inr (1, [.int (jI (M c 0)), .int (jI (M c 1)), .ref (jD G (c + 1)), .ref (jD G (c + 2)), .ref (jD G (c + 3))]) := by simp [jE, h]
theorem jE3 {G : jG} {M : jM} {c : Int} (h : jK c = 3) : jE G M c = .inr (2, [.ref (jD G (c + 1)), .int (jI (M c 1))]) := by simp [jE, h]
theorem jE4 {G : jG} {M : jM} {c : Int} (h : jK c = 4) : jE G M c = .inr (3, [.ref (jD G (c + 1)), .int (jI (M c 1))]) := by simp [jE, h]
theorem jE5 {G : jG} {M : jM} {c : Int} (h : jK c = 5) : jE G M c = .inr (4, [.ref (jD G (c + 1)), .int (jI (M c 1)), .ref (jD G (c + 42)), .ref (jD G (c + 43)), .ref (jD G (c + 44)), .ref (jD G (c + 45)), .ref (jD G (c + 46))]) := by simp [jE, h]
theorem jE6 {G : jG} {M : jM} {c : Int} (h : jK c = 6) : jE G M c = .inr (5, [.ref (jD G (c + 1)), .int (jI (M c 1)), .int (jI (M c 2)), .int (jI (M c 3)), .int (jI (M c 4))]) := by simp [jE, h]
theorem jE7 {G : jG} {M : jM} {c : Int} (h : jK c = 7) : jE G M c = .inr (6, [.ref (jD G (c + 1)), .ref (jD G (c + 48)), .int (jI (M c 2)), .ref (jD G (c + 237)), .ref (jD G (c + 239)), .ref (jD G (c + 241)), .ref (jD G (c + 246)), .ref (jD G (c + 248))]) := by simp [jE, h]
theorem jE8 {G : jG} {M : jM} {c : Int} (h : jK c = 8) : jE G M c = .inr (7, [.ref (jD G (c + 1)), .ref (jD G (c + 2)), .ref (jD G (c + 3)), .int (jI (M c 3)), .ref (jD G (c + 4)), .int (jI (M c 5)), .ref (jD G (c + 5)), .int (jI (M c 7)), .int (jI (M c 8)), .int (jI (M c 9)), .ref (jD G (c + 6)), .int (jI (M c 11)), .ref (jD G (c + 7)), .ref (jD G (c + 8)), .ref (jD G (c + 9))]) := by simp [jE, h]
theorem jEnk {c : Int} {t : Int} (h : jK c / 10000 = t) (ht : 0 < t) : jK c ≠ 1 ∧ jK c ≠ 2 ∧ jK c ≠ 3 ∧ jK c ≠ 4 ∧ jK c ≠ 5 ∧ jK c ≠ 6 ∧ jK c ≠ 7 ∧ jK c ≠ 8 := by omega
theorem jEi {G : jG} {M : jM} {c : Int} {n : Nat} (h : jK c / 10000 = 1) (hn : jK c % 10000 = (n : Int)) : jE G M c = .inl (G.2.1.1, n, .inl (fun j => jI (M c j))) := by
  obtain ⟨h1, h2, h3, h4, h5, h6, h7, h8⟩ := jEnk h (by omega)
  simp [jE, h, h1, h2, h3, h4, h5, h6, h7, h8, hn]
theorem jEz {G : jG} {M : jM} {c : Int} {n : Nat} (h : jK c / 10000 = 2) (hn : jK c % 10000 = (n : Int)) : jE G M c = .inl (G.2.1.2.1, n, .inl (fun j => jI (M c j))) := by
  obtain ⟨h1, h2, h3, h4, h5, h6, h7, h8⟩ := jEnk h (by omega)
  simp [jE, h, h1, h2, h3, h4, h5, h6, h7, h8, hn]
theorem jEc {G : jG} {M : jM} {c : Int} {n : Nat} (h : jK c / 10000 = 3) (hn : jK c % 10000 = (n : Int)) : jE G M c = .inl (G.2.1.2.2.1, n, .inl (fun j => jI (M c j))) := by
  obtain ⟨h1, h2, h3, h4, h5, h6, h7, h8⟩ := jEnk h (by omega)
  simp [jE, h, h1, h2, h3, h4, h5, h6, h7, h8, hn]
theorem jEr {G : jG} {M : jM} {c : Int} {n : Nat} (h : jK c / 10000 = 4) (hn : jK c % 10000 = (n : Int)) : jE G M c = .inl (G.2.1.2.2.2.1, n, .inr (.inr (.inr (.inr (fun j => some (jD G (M c j))))))) := by
  obtain ⟨h1, h2, h3, h4, h5, h6, h7, h8⟩ := jEnk h (by omega)
  simp [jE, h, h1, h2, h3, h4, h5, h6, h7, h8, hn]
theorem jEs {G : jG} {M : jM} {c : Int} {n : Nat} (h : jK c / 10000 = 5) (hn : jK c % 10000 = (n : Int)) : jE G M c = .inl (G.2.1.2.2.2.2, n, .inr (.inr (.inr (.inr (fun j => some (jD G (M c j))))))) := by
  obtain ⟨h1, h2, h3, h4, h5, h6, h7, h8⟩ := jEnk h (by omega)
  simp [jE, h, h1, h2, h3, h4, h5, h6, h7, h8, hn]
section JR
variable {p : Program} {l : Launch} {e : Env} {R : Room} {s : State} {m : MethodId} {args : Array Value} {below : List Frame} {meth : Method} {c : Code} {H : Heap} {locs : List Loc} {cells slots : Nat} {Q : State → Prop} {cc : ByteArray} {nL : Nat} {own : String} {G : jG} {M : jM} {H0 : Heap} {pc : Nat} {ls : Array Slot} {rest : List Value}
/-! fields -/
theorem jr_get (C : Cx G p s args m c cc nL own) (B : Hp G M H0 H locs) {ci idx : Nat} {R' : String} {T : u_T} {n : Nat} {o : Int} {fs : List Value} (he : jE G M o = .inr (ci, fs)) (h0 : jK o ≠ 0) (hc : vwCl[ci]? = some (R', T, n)) (hin : ∀ w ∈ u_ws R' T n, w ∈ tb) (k : Nat) (hk : k < n) (hl : Cond.fieldLink own idx (T k).1 (T k).2.1 (T k).2.2.1 ∈ tb) {v : Value} (hv : fs[k]? = some v) (hdg : decode cc pc = .ok (.getfield idx, 3))
    (kk : W p l e R s m args below meth c H locs cells slots Q (F0 m (pc + 3) ls (v :: rest))) : W p l e R s m args below meth c H locs cells slots Q (F0 m pc ls (.ref (jD G o) :: rest)) :=
  va_get C.1 C.2.1 C.2.2.2.2.1 hin C.2.2.2.1 C.2.2.2.2.2.1 B.1 o.toNat (by rw [gW_get h0, he]) hc k hk (C.2.2.2.2.1 _ hl) (fun x h => h) hv hdg kk
theorem jr_put (C : Cx G p s args m c cc nL own) (B : Hp G M H0 H locs) {ci idx : Nat} {R' : String} {T : u_T} {n : Nat} {o : Int} {fs : List Value} {M' : jM} (he : jE G M o = .inr (ci, fs)) (h0 : jK o ≠ 0) (hc : vwCl[ci]? = some (R', T, n)) (hin : ∀ w ∈ u_ws R' T n, w ∈ tb) (ty0 : Nat → FieldType) (hty : ∀ k, k < n → parseFieldDescriptor (T k).2.2.1 = some (ty0 k)) (hnm : ∀ a, a < n → ∀ b, b < n → a ≠ b → (T a).2.1 ≠ (T b).2.1) (k : Nat) (hk : k < n) (hl : Cond.fieldLink own idx (T k).1 (T k).2.1 (T k).2.2.1 ∈ tb) (hfin : (T k).2.2.2 = false) {v : Value} (hn : narrow (ty0 k) v = v) (hfit : fits (ty0 k) v = true) (hlen : k < fs.length)
    (he' : jE G M' o = .inr (ci, fs.set k v)) (hM' : ∀ x, x ≠ o → M' x = M x) (hok : jOK M') (hdg : decode cc pc = .ok (.putfield idx, 3))
    (kk : ∀ (H1 : Heap) (locs1 : List Loc), Hp G M' H0 H1 locs1 → W p l e R s m args below meth c H1 locs1 cells slots Q (F0 m (pc + 3) ls rest)) : W p l e R s m args below meth c H locs cells slots Q (F0 m pc ls (v :: .ref (jD G o) :: rest)) := by
  refine va_put C.1 C.2.1 C.2.2.2.2.1 hin ty0 hty hnm C.2.2.2.1 C.2.2.2.2.2.1 B.1 gW_D B.2.1 o.toNat (by rw [gW_get h0, he]) hc k hk (C.2.2.2.2.1 _ hl) (fun x h => h) hfin (hty k hk) hn hfit hlen hdg (fun H1 locs1 hP _ hS => kk H1 locs1 ⟨?_, hS, hok⟩)
  rw [← he', gW_set h0 hM'] at hP
  exact hP
/-! arrays -/
theorem jr_clamp {i : Int} (h0 : 0 ≤ i) (hr : jR i) : (((jI i).toNatClampNeg : Nat) : Int) = i := by rw [jI_cl hr]; omega
theorem jr_iald (C : Cx G p s args m c cc nL own) (B : Hp G M H0 H locs) {a i : Int} (n : Nat) (h1 : jK a / 10000 = 1) (h2 : jK a % 10000 = (n : Int)) (hr : jR i) (hi : 0 ≤ i ∧ i < (n : Int)) (hdg : decode cc pc = .ok (.iaload, 1))
    (kk : W p l e R s m args below meth c H locs cells slots Q (F0 m (pc + 1) ls (.int (jI (M a i)) :: rest))) : W p l e R s m args below meth c H locs cells slots Q (F0 m pc ls (.int (jI i) :: .ref (jD G a) :: rest)) := by
  refine va_iald C.1 C.2.1 C.2.2.2.2.2.1 B.1 a.toNat 0 (n := n) (f := fun j => jI (M a j)) (by rw [gW_get (by omega), jEi h1 h2]) rfl (jI_in hi hr) hdg ?_
  simp only [jr_clamp hi.1 hr]
  exact kk
theorem jr_zald (C : Cx G p s args m c cc nL own) (B : Hp G M H0 H locs) {a i : Int} (n : Nat) (h1 : jK a / 10000 = 2) (h2 : jK a % 10000 = (n : Int)) (hr : jR i) (hi : 0 ≤ i ∧ i < (n : Int)) (hdg : decode cc pc = .ok (.baload, 1))
    (kk : W p l e R s m args below meth c H locs cells slots Q (F0 m (pc + 1) ls (.int (jI (M a i)) :: rest))) : W p l e R s m args below meth c H locs cells slots Q (F0 m pc ls (.int (jI i) :: .ref (jD G a) :: rest)) := by
  refine va_zald C.1 C.2.1 C.2.2.2.2.2.1 B.1 a.toNat 1 (n := n) (f := fun j => jI (M a j)) (by rw [gW_get (by omega), jEz h1 h2]) rfl (jI_in hi hr) hdg ?_
  simp only [jr_clamp hi.1 hr]
  exact kk
theorem jr_cald (C : Cx G p s args m c cc nL own) (B : Hp G M H0 H locs) {a i : Int} (h1 : jK a / 10000 = 3) (hr : jR i) (hi : 0 ≤ i ∧ i < jK a % 10000) (hdg : decode cc pc = .ok (.caload, 1))
    (kk : W p l e R s m args below meth c H locs cells slots Q (F0 m (pc + 1) ls (.int (jI (M a i)) :: rest))) : W p l e R s m args below meth c H locs cells slots Q (F0 m pc ls (.int (jI i) :: .ref (jD G a) :: rest)) := by
  have h2 : jK a % 10000 = (((jK a % 10000).toNat : Nat) : Int) := by omega
  refine va_cald C.1 C.2.1 C.2.2.2.2.2.1 B.1 a.toNat 2 (n := (jK a % 10000).toNat) (f := fun j => jI (M a j)) (by rw [gW_get (by omega), jEc h1 h2]) rfl (jI_in (by omega) hr) hdg ?_
  simp only [jr_clamp hi.1 hr]
  exact kk
theorem jr_rald (C : Cx G p s args m c cc nL own) (B : Hp G M H0 H locs) {a i : Int} (n : Nat) (h1 : jK a / 10000 = 4) (h2 : jK a % 10000 = (n : Int)) (hr : jR i) (hi : 0 ≤ i ∧ i < (n : Int)) (hdg : decode cc pc = .ok (.aaload, 1))
    (kk : jK (M a i) = 2 → W p l e R s m args below meth c H locs cells slots Q (F0 m (pc + 1) ls (.ref (jD G (M a i)) :: rest))) : W p l e R s m args below meth c H locs cells slots Q (F0 m pc ls (.int (jI i) :: .ref (jD G a) :: rest)) := by
  refine va_aldq C.1 C.2.1 C.2.2.2.2.2.1 B.1 a.toNat 3 (n := n) (f := fun j => some (jD G (M a j))) (by rw [gW_get (by omega), jEr h1 h2]) rfl (jI_in hi hr) hdg ?_
  simp only [jr_clamp hi.1 hr]
  exact kk ((B.2.2 a i).2.2.2.1 h1)
theorem jr_sald (C : Cx G p s args m c cc nL own) (B : Hp G M H0 H locs) {a i : Int} (n : Nat) (h1 : jK a / 10000 = 5) (h2 : jK a % 10000 = (n : Int)) (hr : jR i) (hi : 0 ≤ i ∧ i < (n : Int)) (hdg : decode cc pc = .ok (.aaload, 1))
    (kk : jK (M a i) = 5 → W p l e R s m args below meth c H locs cells slots Q (F0 m (pc + 1) ls (.ref (jD G (M a i)) :: rest))) : W p l e R s m args below meth c H locs cells slots Q (F0 m pc ls (.int (jI i) :: .ref (jD G a) :: rest)) := by
  refine va_aldq C.1 C.2.1 C.2.2.2.2.2.1 B.1 a.toNat 4 (n := n) (f := fun j => some (jD G (M a j))) (by rw [gW_get (by omega), jEs h1 h2]) rfl (jI_in hi hr) hdg ?_
  simp only [jr_clamp hi.1 hr]
  exact kk ((B.2.2 a i).2.2.2.2 h1)
theorem jU_row {M : jM} {c i v x : Int} (h : x ≠ c) : jU M c i v x = M x := by
  funext j
  simp [jU, h]
theorem jU_upd {M : jM} {a i v : Int} (h0 : 0 ≤ i) (hr : jR i) : (fun j : Nat => jI (jU M a i v a j)) = upd (fun j : Nat => jI (M a j)) (jI i).toNatClampNeg (jI v) := by
  funext j
  unfold jU upd
  rw [jI_cl hr]
  by_cases h : (j : Int) = i
  · rw [if_pos ⟨rfl, h⟩, if_pos (by omega)]
  · rw [if_neg (fun q => h q.2), if_neg (by omega)]
theorem jU_rup {G : jG} {M : jM} {a i v : Int} (h0 : 0 ≤ i) (hr : jR i) : (fun j : Nat => some (jD G (jU M a i v a j))) = va_up (fun j : Nat => some (jD G (M a j))) (jI i).toNatClampNeg (some (jD G v)) := by
  funext j
  unfold jU va_up
  rw [jI_cl hr]
  by_cases h : (j : Int) = i
  · rw [if_pos ⟨rfl, h⟩, if_pos (by omega)]
  · rw [if_neg (fun q => h q.2), if_neg (by omega)]
theorem jr_iast (C : Cx G p s args m c cc nL own) (B : Hp G M H0 H locs) {a i v : Int} (n : Nat) (h1 : jK a / 10000 = 1) (h2 : jK a % 10000 = (n : Int)) (hr : jR i) (hv : jR v) {P : jM → Prop} (h : (0 ≤ i ∧ i < (n : Int)) ∧ jL (jU M a i v) P) (hdg : decode cc pc = .ok (.iastore, 1))
    (kk : ∀ (M' : jM) (H1 : Heap) (locs1 : List Loc), P M' → Hp G M' H0 H1 locs1 → W p l e R s m args below meth c H1 locs1 cells slots Q (F0 m (pc + 1) ls rest)) : W p l e R s m args below meth c H locs cells slots Q (F0 m pc ls (.int (jI v) :: .int (jI i) :: .ref (jD G a) :: rest)) := by
  refine va_iast C.1 C.2.1 C.2.2.2.2.2.1 B.1 gW_D B.2.1 a.toNat 0 (n := n) (f := fun j => jI (M a j)) (by rw [gW_get (by omega), jEi h1 h2]) rfl (jI_in h.1 hr) hdg (fun H1 locs1 hP _ hS => kk (jU M a i v) H1 locs1 h.2 ⟨?_, hS, jU_ok B.2.2 (jV_i hv (by unfold jZ; omega) (by omega))⟩)
  rw [← jU_upd h.1.1 hr, ← jEi h1 h2, gW_set (by omega) (fun x hx => jU_row hx)] at hP
  exact hP
theorem jI_nz {v : Int} (hv : v = 0 ∨ v = 1) : vp_nar .boolean (jI v) = jI v := by rcases hv with rfl | rfl <;> decide
theorem jr_zast (C : Cx G p s args m c cc nL own) (B : Hp G M H0 H locs) {a i v : Int} (n : Nat) (h1 : jK a / 10000 = 2) (h2 : jK a % 10000 = (n : Int)) (hr : jR i) (hv : v = 0 ∨ v = 1) {P : jM → Prop} (h : (0 ≤ i ∧ i < (n : Int)) ∧ jL (jU M a i v) P) (hdg : decode cc pc = .ok (.bastore, 1))
    (kk : ∀ (M' : jM) (H1 : Heap) (locs1 : List Loc), P M' → Hp G M' H0 H1 locs1 → W p l e R s m args below meth c H1 locs1 cells slots Q (F0 m (pc + 1) ls rest)) : W p l e R s m args below meth c H locs cells slots Q (F0 m pc ls (.int (jI v) :: .int (jI i) :: .ref (jD G a) :: rest)) := by
  refine va_zast C.1 C.2.1 C.2.2.2.2.2.1 B.1 gW_D B.2.1 a.toNat 1 (n := n) (f := fun j => jI (M a j)) (by rw [gW_get (by omega), jEz h1 h2]) rfl (jI_in h.1 hr) hdg (fun H1 locs1 hP _ hS => kk (jU M a i v) H1 locs1 h.2 ⟨?_, hS, jU_ok B.2.2 (jV_z hv (by omega))⟩)
  rw [jI_nz hv, ← jU_upd h.1.1 hr, ← jEz h1 h2, gW_set (by omega) (fun x hx => jU_row hx)] at hP
  exact hP
theorem jI_nc {v : Int} (hv : 0 ≤ v ∧ v < 65536) : vp_nar .char (jI v) = jI v := by
  have e : jI v = nI v.toNat := by
    apply Int32.toInt_inj.mp
    rw [jI_toInt ⟨by omega, by omega⟩, nI_toInt (by omega)]
    omega
  rw [e]
  have h := (pk_charN (q := v.toNat) (by omega)).1
  unfold vp_nar
  rw [h]
theorem jr_cast (C : Cx G p s args m c cc nL own) (B : Hp G M H0 H locs) {a i v : Int} (h1 : jK a / 10000 = 3) (hr : jR i) (hv : 0 ≤ v ∧ v < 65536) {P : jM → Prop} (h : (0 ≤ i ∧ i < jK a % 10000) ∧ jL (jU M a i v) P) (hdg : decode cc pc = .ok (.castore, 1))
    (kk : ∀ (M' : jM) (H1 : Heap) (locs1 : List Loc), P M' → Hp G M' H0 H1 locs1 → W p l e R s m args below meth c H1 locs1 cells slots Q (F0 m (pc + 1) ls rest)) : W p l e R s m args below meth c H locs cells slots Q (F0 m pc ls (.int (jI v) :: .int (jI i) :: .ref (jD G a) :: rest)) := by
  have h2 : jK a % 10000 = (((jK a % 10000).toNat : Nat) : Int) := by omega
  refine va_cast C.1 C.2.1 C.2.2.2.2.2.1 B.1 gW_D B.2.1 a.toNat 2 (n := (jK a % 10000).toNat) (f := fun j => jI (M a j)) (by rw [gW_get (by omega), jEc h1 h2]) rfl (jI_in (by omega) hr) hdg (fun H1 locs1 hP _ hS => kk (jU M a i v) H1 locs1 h.2 ⟨?_, hS, jU_ok B.2.2 (jV_c hv h1)⟩)
  rw [jI_nc hv, ← jU_upd h.1.1 hr, ← jEc h1 h2, gW_set (by omega) (fun x hx => jU_row hx)] at hP
  exact hP
theorem jr_rast (C : Cx G p s args m c cc nL own) (B : Hp G M H0 H locs) {a i v : Int} (n : Nat) (h1 : jK a / 10000 = 4) (h2 : jK a % 10000 = (n : Int)) (hr : jR i) (hv : jK v = 2) {P : jM → Prop} (h : (0 ≤ i ∧ i < (n : Int)) ∧ jL (jU M a i v) P) (hdg : decode cc pc = .ok (.aastore, 1))
    (kk : ∀ (M' : jM) (H1 : Heap) (locs1 : List Loc), P M' → Hp G M' H0 H1 locs1 → W p l e R s m args below meth c H1 locs1 cells slots Q (F0 m (pc + 1) ls rest)) : W p l e R s m args below meth c H locs cells slots Q (F0 m pc ls (.ref (jD G v) :: .int (jI i) :: .ref (jD G a) :: rest)) := by
  refine va_astq C.1 C.2.1 C.2.2.2.2.2.1 B.1 gW_D B.2.1 a.toNat 3 v.toNat 1 (r := (RX1, TX1, 5)) (n := n) (f := fun j => some (jD G (M a j))) (by rw [gW_get (by omega), jEr h1 h2]) rfl (by rw [gW_get (by omega), jE2 hv]) rfl (jI_in h.1 hr) hdg (fun H1 locs1 hP _ hS => kk (jU M a i v) H1 locs1 h.2 ⟨?_, hS, jU_ok B.2.2 (jV_r (jK_R (by omega)) hv h1)⟩)
  rw [← jU_rup h.1.1 hr, ← jEr h1 h2, gW_set (by omega) (fun x hx => jU_row hx)] at hP
  exact hP
theorem jr_sast (C : Cx G p s args m c cc nL own) (B : Hp G M H0 H locs) {a i v : Int} (n : Nat) (h1 : jK a / 10000 = 5) (h2 : jK a % 10000 = (n : Int)) (hr : jR i) (hv : jK v = 5) {P : jM → Prop} (h : (0 ≤ i ∧ i < (n : Int)) ∧ jL (jU M a i v) P) (hdg : decode cc pc = .ok (.aastore, 1))
    (kk : ∀ (M' : jM) (H1 : Heap) (locs1 : List Loc), P M' → Hp G M' H0 H1 locs1 → W p l e R s m args below meth c H1 locs1 cells slots Q (F0 m (pc + 1) ls rest)) : W p l e R s m args below meth c H locs cells slots Q (F0 m pc ls (.ref (jD G v) :: .int (jI i) :: .ref (jD G a) :: rest)) := by
  refine va_astq C.1 C.2.1 C.2.2.2.2.2.1 B.1 gW_D B.2.1 a.toNat 4 v.toNat 4 (r := (RX4, TX4, 7)) (n := n) (f := fun j => some (jD G (M a j))) (by rw [gW_get (by omega), jEs h1 h2]) rfl (by rw [gW_get (by omega), jE5 hv]) rfl (jI_in h.1 hr) hdg (fun H1 locs1 hP _ hS => kk (jU M a i v) H1 locs1 h.2 ⟨?_, hS, jU_ok B.2.2 (jV_s (jK_R (by omega)) hv h1)⟩)
  rw [← jU_rup h.1.1 hr, ← jEs h1 h2, gW_set (by omega) (fun x hx => jU_row hx)] at hP
  exact hP
theorem jr_calen (C : Cx G p s args m c cc nL own) (B : Hp G M H0 H locs) {a : Int} (h1 : jK a / 10000 = 3) (hdg : decode cc pc = .ok (.arraylength, 1))
    (kk : W p l e R s m args below meth c H locs cells slots Q (F0 m (pc + 1) ls (.int (jI (jK a % 10000)) :: rest))) : W p l e R s m args below meth c H locs cells slots Q (F0 m pc ls (.ref (jD G a) :: rest)) := by
  have h2 : jK a % 10000 = (((jK a % 10000).toNat : Nat) : Int) := by omega
  refine va_alen C.1 C.2.1 C.2.2.2.2.2.1 B.1 a.toNat 2 (v := jI (jK a % 10000)) (by rw [gW_get (by omega), jEc h1 h2]) rfl ?_ hdg kk
  rw [h2]
  rfl
/-! copies -/
theorem jC_row {M : jM} {a sp d dp n x : Int} (h : x ≠ d) : jC M a sp d dp n x = M x := by
  funext j
  simp [jC, h]
theorem jC_cpy {M : jM} {a sp d dp n : Int} (h0 : 0 ≤ sp) (h1 : 0 ≤ dp) (h2 : 0 ≤ n) : (fun j : Nat => jI (jC M a sp d dp n d j)) = va_cpy (fun j : Nat => jI (M a j)) (fun j : Nat => jI (M d j)) sp.toNat dp.toNat n.toNat := by
  funext j
  unfold jC va_cpy
  by_cases h : dp ≤ (j : Int) ∧ (j : Int) < dp + n
  · rw [if_pos ⟨rfl, h⟩, if_pos (by omega)]
    congr 2
    omega
  · rw [if_neg (fun q => h q.2), if_neg (by omega)]
theorem jC_ok {M : jM} {a sp d dp n : Int} (h : jOK M) (hk : jK a / 10000 = jK d / 10000) (h1 : jK a / 10000 = 1 ∨ jK a / 10000 = 2) : jOK (jC M a sp d dp n) := by
  intro c' i'
  unfold jC
  split
  · next q =>
    obtain ⟨v1, v2, v3, v4, v5⟩ := h a (sp + (i' - dp))
    rw [q.1]
    refine ⟨v1, fun z => v2 ?_, fun z => by omega, fun z => by omega, fun z => by omega⟩
    unfold jZ at z ⊢
    omega
  · exact h c' i'
theorem jr_copy (C : Cx G p s args m c cc nL own) (B : Hp G M H0 H locs) (hl : ls.size = nL) {idx : Nat} (q1 : Cond.methodLink own idx arraycopyName ∈ tb) (q2 : Cond.native arraycopyName ∈ tb) (q3 : Cond.static arraycopyName ∈ tb) (q4 : Cond.initialized "java/lang/System" ∈ tb) {a b sp dp n : Int} (na nb : Nat) (ha1 : jK a / 10000 = 1 ∨ jK a / 10000 = 2) (hb1 : jK b / 10000 = jK a / 10000) (ha2 : jK a % 10000 = (na : Int)) (hb2 : jK b % 10000 = (nb : Int)) (rs : jR sp) (rd : jR dp) (rn : jR n) {P : jM → Prop} (h : (0 ≤ sp ∧ 0 ≤ dp ∧ 0 ≤ n ∧ sp + n ≤ na ∧ dp + n ≤ nb) ∧ jL (jC M a sp b dp n) P)
    (hf : 1 ≤ R.frames) (hlo : (rest.map fun v => v.category).sum + (nativeFrameWords "java/lang/System" "arraycopy" 5 + 11) ≤ R.locals) (hdg : decode cc pc = .ok (.invokestatic idx, 3))
    (kk : ∀ (M' : jM) (H1 : Heap) (locs1 : List Loc), P M' → Hp G M' H0 H1 locs1 → W p l e R s m args below meth c H1 locs1 cells slots Q (F0 m (pc + 3) ls rest)) : W p l e R s m args below meth c H locs cells slots Q (F0 m pc ls (.int (jI n) :: .int (jI dp) :: .ref (jD G b) :: .int (jI sp) :: .ref (jD G a) :: rest)) := by
  obtain ⟨⟨g1, g2, g3, g4, g5⟩, h⟩ := h
  have hts := C.2.2.2.2.1
  have n1 : ¬ jI sp < 0 := fun q => by have := (jI_lt rs (by decide : jR 0)).mp q; omega
  have n2 : ¬ jI dp < 0 := fun q => by have := (jI_lt rd (by decide : jR 0)).mp q; omega
  have n3 : ¬ jI n < 0 := fun q => by have := (jI_lt rn (by decide : jR 0)).mp q; omega
  have c1 := jI_cl rs
  have c2 := jI_cl rd
  have c3 := jI_cl rn
  rcases ha1 with ha1 | ha1
  · refine va_copyi C.1 C.2.1 (C.2.2.1.trans hl.symm) C.2.2.2.1 (hts _ q1) (hts _ q2) (hts _ q3) (hts _ q4) C.2.2.2.2.2.1 B.1 gW_D B.2.1 a.toNat b.toNat 0 0 (ty := .int) (n0 := na) (n1 := nb) (f := fun j => jI (M a j)) (g := fun j => jI (M b j)) (by rw [gW_get (by omega), jEi ha1 ha2]) (by rw [gW_get (by omega), jEi (hb1.trans ha1) hb2]) rfl rfl rfl n1 n2 n3 (by rw [c1, c3]; omega) (by rw [c2, c3]; omega) (fun _ _ => rfl) hf hlo hdg (fun H1 locs1 hP _ hS => kk (jC M a sp b dp n) H1 locs1 h ⟨?_, hS, jC_ok B.2.2 hb1.symm (Or.inl ha1)⟩)
    rw [c1, c2, c3, ← jC_cpy g1 g2 g3, ← jEi (hb1.trans ha1) hb2, gW_set (by omega) (fun x hx => jC_row hx)] at hP
    exact hP
  · refine va_copyi C.1 C.2.1 (C.2.2.1.trans hl.symm) C.2.2.2.1 (hts _ q1) (hts _ q2) (hts _ q3) (hts _ q4) C.2.2.2.2.2.1 B.1 gW_D B.2.1 a.toNat b.toNat 1 1 (ty := .boolean) (n0 := na) (n1 := nb) (f := fun j => jI (M a j)) (g := fun j => jI (M b j)) (by rw [gW_get (by omega), jEz ha1 ha2]) (by rw [gW_get (by omega), jEz (hb1.trans ha1) hb2]) rfl rfl rfl n1 n2 n3 (by rw [c1, c3]; omega) (by rw [c2, c3]; omega) (fun i _ => ?_) hf hlo hdg (fun H1 locs1 hP _ hS => kk (jC M a sp b dp n) H1 locs1 h ⟨?_, hS, jC_ok B.2.2 hb1.symm (Or.inr ha1)⟩)
    · have hz := (B.2.2 a (((jI sp).toNatClampNeg + i : Nat) : Int)).2.1 (Or.inl ha1)
      show fits .boolean (.int (jI (M a (((jI sp).toNatClampNeg + i : Nat) : Int)))) = true
      rcases hz with hz | hz <;> rw [hz] <;> decide
    · rw [c1, c2, c3, ← jC_cpy g1 g2 g3, ← jEz (hb1.trans ha1) hb2, gW_set (by omega) (fun x hx => jC_row hx)] at hP
      exact hP
end JR
end
section
/-! rules of single instructions over jI; branches over the walked Prop h -/
section JI
variable {p : Program} {l : Launch} {e : Env} {R : Room} {s : State} {m : MethodId} {args : Array Value} {below : List Frame} {meth : Method} {c : Code} {H : Heap} {locs : List Loc} {cells slots : Nat} {Q : State → Prop} {cc : ByteArray} {nL : Nat} {own : String} {G : jG} {M : jM} {H0 : Heap} {pc : Nat} {ls : Array Slot} {rest : List Value}
theorem jr_nm {x : Int} {P : Int → Prop} (h : jL x P) (hx : jR x) (kk : ∀ y : Int, P y → jR y → W p l e R s m args below meth c H locs cells slots Q (F0 m pc ls (.int (jI y) :: rest))) : W p l e R s m args below meth c H locs cells slots Q (F0 m pc ls (.int (jI x) :: rest)) := kk x h hx
theorem jr_nmz {x : Int} {P : Int → Prop} (h : jL x P) (hx : x = 0 ∨ x = 1) (kk : ∀ y : Int, P y → (y = 0 ∨ y = 1) → W p l e R s m args below meth c H locs cells slots Q (F0 m pc ls (.int (jI y) :: rest))) : W p l e R s m args below meth c H locs cells slots Q (F0 m pc ls (.int (jI x) :: rest)) := kk x h hx
theorem jr_nmr {x : Int} {P : Int → Prop} {k : Int} (h : jL x P) (hx : jK x = k) (kk : ∀ y : Int, P y → jK y = k → W p l e R s m args below meth c H locs cells slots Q (F0 m pc ls (.ref (jD G y) :: rest))) : W p l e R s m args below meth c H locs cells slots Q (F0 m pc ls (.ref (jD G x) :: rest)) := kk x h hx
theorem jr_iconst {n : Int} (C : Cx G p s args m c cc nL own) (hdg : decode cc pc = .ok (.iconst n, 1)) (kk : W p l e R s m args below meth c H locs cells slots Q (F0 m (pc + 1) ls (.int (jI n) :: rest))) : W p l e R s m args below meth c H locs cells slots Q (F0 m pc ls rest) := lv_iconst C.1 C.2.1 hdg rfl kk
theorem jr_bipush {n : Int} (C : Cx G p s args m c cc nL own) (hdg : decode cc pc = .ok (.bipush n, 2)) (hv : (Int8.ofInt n).toInt32 = jI n) (kk : W p l e R s m args below meth c H locs cells slots Q (F0 m (pc + 2) ls (.int (jI n) :: rest))) : W p l e R s m args below meth c H locs cells slots Q (F0 m pc ls rest) := lv_bipush C.1 C.2.1 hdg hv kk
theorem jr_sipush {n : Int} (C : Cx G p s args m c cc nL own) (hdg : decode cc pc = .ok (.sipush n, 3)) (hv : (Int16.ofInt n).toInt32 = jI n) (kk : W p l e R s m args below meth c H locs cells slots Q (F0 m (pc + 3) ls (.int (jI n) :: rest))) : W p l e R s m args below meth c H locs cells slots Q (F0 m pc ls rest) := lv_sipush C.1 C.2.1 hdg hv kk
theorem jr_ldc {n : Int} {idx : Nat} {v : Int32} (C : Cx G p s args m c cc nL own) (q : Cond.constant own idx v ∈ tb) (hv : v = jI n) (hdg : decode cc pc = .ok (.ldc idx, 2)) (kk : W p l e R s m args below meth c H locs cells slots Q (F0 m (pc + 2) ls (.int (jI n) :: rest))) : W p l e R s m args below meth c H locs cells slots Q (F0 m pc ls rest) := lv_ldc C.1 C.2.1 C.2.2.2.1 (C.2.2.2.2.1 _ q) hdg (hv ▸ kk)
theorem jr_iadd {a b : Int} (C : Cx G p s args m c cc nL own) (hdg : decode cc pc = .ok (.iadd, 1)) (kk : W p l e R s m args below meth c H locs cells slots Q (F0 m (pc + 1) ls (.int (jI (jW (a + b))) :: rest))) : W p l e R s m args below meth c H locs cells slots Q (F0 m pc ls (.int (jI b) :: .int (jI a) :: rest)) := lv_iadd C.1 C.2.1 hdg (by rw [jI_add]; exact kk)
theorem jr_isub {a b : Int} (C : Cx G p s args m c cc nL own) (hdg : decode cc pc = .ok (.isub, 1)) (kk : W p l e R s m args below meth c H locs cells slots Q (F0 m (pc + 1) ls (.int (jI (jW (a - b))) :: rest))) : W p l e R s m args below meth c H locs cells slots Q (F0 m pc ls (.int (jI b) :: .int (jI a) :: rest)) := lv_isub C.1 C.2.1 hdg (by rw [jI_sub]; exact kk)
theorem jr_imul {a b : Int} (C : Cx G p s args m c cc nL own) (hdg : decode cc pc = .ok (.imul, 1)) (kk : W p l e R s m args below meth c H locs cells slots Q (F0 m (pc + 1) ls (.int (jI (jW (a * b))) :: rest))) : W p l e R s m args below meth c H locs cells slots Q (F0 m pc ls (.int (jI b) :: .int (jI a) :: rest)) := lv_imul C.1 C.2.1 hdg (by rw [jI_mul]; exact kk)
theorem jr_ineg {a : Int} (C : Cx G p s args m c cc nL own) (hdg : decode cc pc = .ok (.ineg, 1)) (kk : W p l e R s m args below meth c H locs cells slots Q (F0 m (pc + 1) ls (.int (jI (jW (-a))) :: rest))) : W p l e R s m args below meth c H locs cells slots Q (F0 m pc ls (.int (jI a) :: rest)) := lv_ineg C.1 C.2.1 hdg (by rw [jI_neg]; exact kk)
theorem jr_idiv {a b : Int} (C : Cx G p s args m c cc nL own) (hne : ¬ jI b = 0) (hdg : decode cc pc = .ok (.idiv, 1)) (kk : W p l e R s m args below meth c H locs cells slots Q (F0 m (pc + 1) ls (.int (jI (jDiv a b)) :: rest))) : W p l e R s m args below meth c H locs cells slots Q (F0 m pc ls (.int (jI b) :: .int (jI a) :: rest)) := lv_idiv C.1 C.2.1 hdg hne (by unfold jDiv at kk; rw [jI_of] at kk; exact kk)
theorem jr_irem {a b : Int} (C : Cx G p s args m c cc nL own) (hne : ¬ jI b = 0) (hdg : decode cc pc = .ok (.irem, 1)) (kk : W p l e R s m args below meth c H locs cells slots Q (F0 m (pc + 1) ls (.int (jI (jRem a b)) :: rest))) : W p l e R s m args below meth c H locs cells slots Q (F0 m pc ls (.int (jI b) :: .int (jI a) :: rest)) := lv_irem C.1 C.2.1 hdg hne (by unfold jRem at kk; rw [jI_of] at kk; exact kk)
theorem jr_iand {a b : Int} (C : Cx G p s args m c cc nL own) (hdg : decode cc pc = .ok (.iand, 1)) (kk : W p l e R s m args below meth c H locs cells slots Q (F0 m (pc + 1) ls (.int (jI (jAnd a b)) :: rest))) : W p l e R s m args below meth c H locs cells slots Q (F0 m pc ls (.int (jI b) :: .int (jI a) :: rest)) := lv_iand C.1 C.2.1 hdg (by unfold jAnd at kk; rw [jI_of] at kk; exact kk)
theorem jr_ior {a b : Int} (C : Cx G p s args m c cc nL own) (hdg : decode cc pc = .ok (.ior, 1)) (kk : W p l e R s m args below meth c H locs cells slots Q (F0 m (pc + 1) ls (.int (jI (jOr a b)) :: rest))) : W p l e R s m args below meth c H locs cells slots Q (F0 m pc ls (.int (jI b) :: .int (jI a) :: rest)) := lv_ior C.1 C.2.1 hdg (by unfold jOr at kk; rw [jI_of] at kk; exact kk)
theorem jr_ixor {a b : Int} (C : Cx G p s args m c cc nL own) (hdg : decode cc pc = .ok (.ixor, 1)) (kk : W p l e R s m args below meth c H locs cells slots Q (F0 m (pc + 1) ls (.int (jI (jXor a b)) :: rest))) : W p l e R s m args below meth c H locs cells slots Q (F0 m pc ls (.int (jI b) :: .int (jI a) :: rest)) := lv_ixor C.1 C.2.1 hdg (by unfold jXor at kk; rw [jI_of] at kk; exact kk)
theorem jr_ishl {a b : Int} (C : Cx G p s args m c cc nL own) (hdg : decode cc pc = .ok (.ishl, 1)) (kk : W p l e R s m args below meth c H locs cells slots Q (F0 m (pc + 1) ls (.int (jI (jShl a b)) :: rest))) : W p l e R s m args below meth c H locs cells slots Q (F0 m pc ls (.int (jI b) :: .int (jI a) :: rest)) := lv_ishl C.1 C.2.1 hdg (by unfold jShl at kk; rw [jI_of] at kk; exact kk)
theorem jr_ishr {a b : Int} (C : Cx G p s args m c cc nL own) (hdg : decode cc pc = .ok (.ishr, 1)) (kk : W p l e R s m args below meth c H locs cells slots Q (F0 m (pc + 1) ls (.int (jI (jShr a b)) :: rest))) : W p l e R s m args below meth c H locs cells slots Q (F0 m pc ls (.int (jI b) :: .int (jI a) :: rest)) := lv_ishr C.1 C.2.1 hdg (by unfold jShr at kk; rw [jI_of] at kk; exact kk)
theorem jr_i2c {a : Int} (C : Cx G p s args m c cc nL own) (hdg : decode cc pc = .ok (.i2c, 1)) (kk : W p l e R s m args below meth c H locs cells slots Q (F0 m (pc + 1) ls (.int (jI (jChr a)) :: rest))) : W p l e R s m args below meth c H locs cells slots Q (F0 m pc ls (.int (jI a) :: rest)) := lv_i2c C.1 C.2.1 hdg (jI_chr a) kk
theorem jr_dup2 {v w : Value} (C : Cx G p s args m c cc nL own) (hv : v.category = 1) (hw : w.category = 1) (hdg : decode cc pc = .ok (.dup2, 1)) (kk : W p l e R s m args below meth c H locs cells slots Q (F0 m (pc + 1) ls (v :: w :: v :: w :: rest))) : W p l e R s m args below meth c H locs cells slots Q (F0 m pc ls (v :: w :: rest)) := lv_dup2_11 C.1 C.2.1 hdg hv hw kk
theorem jr_iinc {i k : Nat} {n x : Int} {lv : List (Nat × Value)} {lv' : Int → List (Nat × Value)} {P : Int → Prop} (C : Cx G p s args m c cc nL own) (h : jL (jW (x + n)) P) (hl : lv_has ls nL lv) (hk : lv[k]? = some (i, .int (jI x))) (hn : i < nL) (hlv : ∀ y : Int, (i, Value.int (jI y)) :: lv.filter (fun q => !(q.1 == i) && !(q.1 + 1 == i && q.2.category == 2)) = lv' y) (hdg : decode cc pc = .ok (.iinc i n, 3))
    (kk : ∀ (y : Int), P y → jR y → ∀ ls' : Array Slot, lv_has ls' nL (lv' y) → W p l e R s m args below meth c H locs cells slots Q (F0 m (pc + 3) ls' rest)) : W p l e R s m args below meth c H locs cells slots Q (F0 m pc ls rest) :=
  lv_iinc (v := jI (jW (x + n))) C.1 C.2.1 hdg hl hk (by rw [← jI_add]; rfl) hn (hlv _) (fun ls' h' => kk _ h (jW_R _) ls' h')
theorem jr_if_eq {x : Int} {off : Int} {tgt : Nat} {P P2 : Prop} (C : Cx G p s args m c cc nL own) (hx : jR x) (h : if x = 0 then P else P2) (hdg : decode cc pc = .ok (.ifCond .eq off, 3)) (ht : (pc : Int) + off = (tgt : Int))
    (k1 : x = 0 → P → W p l e R s m args below meth c H locs cells slots Q (F0 m tgt ls rest)) (k2 : ¬ x = 0 → P2 → W p l e R s m args below meth c H locs cells slots Q (F0 m (pc + 3) ls rest)) : W p l e R s m args below meth c H locs cells slots Q (F0 m pc ls (.int (jI x) :: rest)) := by
  have ee : (jI x = 0) ↔ x = 0 := jI_eq hx (by decide : jR 0)
  have a1 : (jI x = 0) → W p l e R s m args below meth c H locs cells slots Q (F0 m tgt ls rest) := fun q => k1 (ee.mp q) (by rw [if_pos (ee.mp q)] at h; exact h)
  have a2 : ¬ (jI x = 0) → W p l e R s m args below meth c H locs cells slots Q (F0 m (pc + 3) ls rest) := fun q => k2 (fun z => q (ee.mpr z)) (by rw [if_neg (fun z => q (ee.mpr z))] at h; exact h)
  -- kt : x = 0 ; kf : ¬ x = 0
  by_cases z : jI x = 0
  · exact lv_if_eq C.1 C.2.1 hdg ht (fun q => a1 z) (fun q => absurd q (by first | exact fun y => y z | exact fun y => absurd z (by simpa using y) | (simp; exact z)))
  · exact lv_if_eq C.1 C.2.1 hdg ht (fun q => absurd q (by first | exact z | exact fun y => z (by simpa using y))) (fun q => a2 z)
theorem jr_if_ne {x : Int} {off : Int} {tgt : Nat} {P P2 : Prop} (C : Cx G p s args m c cc nL own) (hx : jR x) (h : if x = 0 then P else P2) (hdg : decode cc pc = .ok (.ifCond .ne off, 3)) (ht : (pc : Int) + off = (tgt : Int))
    (k1 : x = 0 → P → W p l e R s m args below meth c H locs cells slots Q (F0 m (pc + 3) ls rest)) (k2 : ¬ x = 0 → P2 → W p l e R s m args below meth c H locs cells slots Q (F0 m tgt ls rest)) : W p l e R s m args below meth c H locs cells slots Q (F0 m pc ls (.int (jI x) :: rest)) := by
  have ee : (jI x = 0) ↔ x = 0 := jI_eq hx (by decide : jR 0)
  have a1 : (jI x = 0) → W p l e R s m args below meth c H locs cells slots Q (F0 m (pc + 3) ls rest) := fun q => k1 (ee.mp q) (by rw [if_pos (ee.mp q)] at h; exact h)
  have a2 : ¬ (jI x = 0) → W p l e R s m args below meth c H locs cells slots Q (F0 m tgt ls rest) := fun q => k2 (fun z => q (ee.mpr z)) (by rw [if_neg (fun z => q (ee.mpr z))] at h; exact h)
  -- kt : ¬ x = 0 ; kf : x = 0
  by_cases z : jI x = 0
  · exact lv_if_ne C.1 C.2.1 hdg ht (fun q => absurd q (by first | exact fun y => y z | exact Int32.not_lt.mpr z | exact Int32.not_le.mpr z | exact fun y => absurd z (by simpa using y) | (simp; exact z))) (fun q => a1 z)
  · exact lv_if_ne C.1 C.2.1 hdg ht (fun q => a2 z) (fun q => absurd q (by first | exact z | exact fun y => y z | exact fun y => y (by first | exact z | exact Int32.not_lt.mp z | exact Int32.not_le.mp z)))
theorem jr_if_lt {x : Int} {off : Int} {tgt : Nat} {P P2 : Prop} (C : Cx G p s args m c cc nL own) (hx : jR x) (h : if x < 0 then P else P2) (hdg : decode cc pc = .ok (.ifCond .lt off, 3)) (ht : (pc : Int) + off = (tgt : Int))
    (k1 : x < 0 → P → W p l e R s m args below meth c H locs cells slots Q (F0 m tgt ls rest)) (k2 : ¬ x < 0 → P2 → W p l e R s m args below meth c H locs cells slots Q (F0 m (pc + 3) ls rest)) : W p l e R s m args below meth c H locs cells slots Q (F0 m pc ls (.int (jI x) :: rest)) := by
  have ee : (jI x < 0) ↔ x < 0 := jI_lt hx (by decide : jR 0)
  have a1 : (jI x < 0) → W p l e R s m args below meth c H locs cells slots Q (F0 m tgt ls rest) := fun q => k1 (ee.mp q) (by rw [if_pos (ee.mp q)] at h; exact h)
  have a2 : ¬ (jI x < 0) → W p l e R s m args below meth c H locs cells slots Q (F0 m (pc + 3) ls rest) := fun q => k2 (fun z => q (ee.mpr z)) (by rw [if_neg (fun z => q (ee.mpr z))] at h; exact h)
  -- kt : x < 0 ; kf : ¬ x < 0
  by_cases z : jI x < 0
  · exact lv_if_lt C.1 C.2.1 hdg ht (fun q => a1 z) (fun q => absurd q (by first | exact fun y => y z | exact fun y => absurd z (by simpa using y) | (simp; exact z)))
  · exact lv_if_lt C.1 C.2.1 hdg ht (fun q => absurd q (by first | exact z | exact fun y => z (by simpa using y))) (fun q => a2 z)
theorem jr_if_ge {x : Int} {off : Int} {tgt : Nat} {P P2 : Prop} (C : Cx G p s args m c cc nL own) (hx : jR x) (h : if x < 0 then P else P2) (hdg : decode cc pc = .ok (.ifCond .ge off, 3)) (ht : (pc : Int) + off = (tgt : Int))
    (k1 : x < 0 → P → W p l e R s m args below meth c H locs cells slots Q (F0 m (pc + 3) ls rest)) (k2 : ¬ x < 0 → P2 → W p l e R s m args below meth c H locs cells slots Q (F0 m tgt ls rest)) : W p l e R s m args below meth c H locs cells slots Q (F0 m pc ls (.int (jI x) :: rest)) := by
  have ee : (jI x < 0) ↔ x < 0 := jI_lt hx (by decide : jR 0)
  have a1 : (jI x < 0) → W p l e R s m args below meth c H locs cells slots Q (F0 m (pc + 3) ls rest) := fun q => k1 (ee.mp q) (by rw [if_pos (ee.mp q)] at h; exact h)
  have a2 : ¬ (jI x < 0) → W p l e R s m args below meth c H locs cells slots Q (F0 m tgt ls rest) := fun q => k2 (fun z => q (ee.mpr z)) (by rw [if_neg (fun z => q (ee.mpr z))] at h; exact h)
  -- kt : 0 ≤ x ; kf : ¬ 0 ≤ x
  by_cases z : jI x < 0
  · exact lv_if_ge C.1 C.2.1 hdg ht (fun q => absurd q (by first | exact fun y => y z | exact Int32.not_lt.mpr z | exact Int32.not_le.mpr z | exact fun y => absurd z (by simpa using y) | (simp; exact z))) (fun q => a1 z)
  · exact lv_if_ge C.1 C.2.1 hdg ht (fun q => a2 z) (fun q => absurd q (by first | exact z | exact fun y => y z | exact fun y => y (by first | exact z | exact Int32.not_lt.mp z | exact Int32.not_le.mp z)))
theorem jr_if_gt {x : Int} {off : Int} {tgt : Nat} {P P2 : Prop} (C : Cx G p s args m c cc nL own) (hx : jR x) (h : if x ≤ 0 then P else P2) (hdg : decode cc pc = .ok (.ifCond .gt off, 3)) (ht : (pc : Int) + off = (tgt : Int))
    (k1 : x ≤ 0 → P → W p l e R s m args below meth c H locs cells slots Q (F0 m (pc + 3) ls rest)) (k2 : ¬ x ≤ 0 → P2 → W p l e R s m args below meth c H locs cells slots Q (F0 m tgt ls rest)) : W p l e R s m args below meth c H locs cells slots Q (F0 m pc ls (.int (jI x) :: rest)) := by
  have ee : (jI x ≤ 0) ↔ x ≤ 0 := jI_le hx (by decide : jR 0)
  have a1 : (jI x ≤ 0) → W p l e R s m args below meth c H locs cells slots Q (F0 m (pc + 3) ls rest) := fun q => k1 (ee.mp q) (by rw [if_pos (ee.mp q)] at h; exact h)
  have a2 : ¬ (jI x ≤ 0) → W p l e R s m args below meth c H locs cells slots Q (F0 m tgt ls rest) := fun q => k2 (fun z => q (ee.mpr z)) (by rw [if_neg (fun z => q (ee.mpr z))] at h; exact h)
  -- kt : 0 < x ; kf : ¬ 0 < x
  by_cases z : jI x ≤ 0
  · exact lv_if_gt C.1 C.2.1 hdg ht (fun q => absurd q (by first | exact fun y => y z | exact Int32.not_lt.mpr z | exact Int32.not_le.mpr z | exact fun y => absurd z (by simpa using y) | (simp; exact z))) (fun q => a1 z)
  · exact lv_if_gt C.1 C.2.1 hdg ht (fun q => a2 z) (fun q => absurd q (by first | exact z | exact fun y => y z | exact fun y => y (by first | exact z | exact Int32.not_lt.mp z | exact Int32.not_le.mp z)))
theorem jr_if_le {x : Int} {off : Int} {tgt : Nat} {P P2 : Prop} (C : Cx G p s args m c cc nL own) (hx : jR x) (h : if x ≤ 0 then P else P2) (hdg : decode cc pc = .ok (.ifCond .le off, 3)) (ht : (pc : Int) + off = (tgt : Int))
    (k1 : x ≤ 0 → P → W p l e R s m args below meth c H locs cells slots Q (F0 m tgt ls rest)) (k2 : ¬ x ≤ 0 → P2 → W p l e R s m args below meth c H locs cells slots Q (F0 m (pc + 3) ls rest)) : W p l e R s m args below meth c H locs cells slots Q (F0 m pc ls (.int (jI x) :: rest)) := by
  have ee : (jI x ≤ 0) ↔ x ≤ 0 := jI_le hx (by decide : jR 0)
  have a1 : (jI x ≤ 0) → W p l e R s m args below meth c H locs cells slots Q (F0 m tgt ls rest) := fun q => k1 (ee.mp q) (by rw [if_pos (ee.mp q)] at h; exact h)
  have a2 : ¬ (jI x ≤ 0) → W p l e R s m args below meth c H locs cells slots Q (F0 m (pc + 3) ls rest) := fun q => k2 (fun z => q (ee.mpr z)) (by rw [if_neg (fun z => q (ee.mpr z))] at h; exact h)
  -- kt : x ≤ 0 ; kf : ¬ x ≤ 0
  by_cases z : jI x ≤ 0
  · exact lv_if_le C.1 C.2.1 hdg ht (fun q => a1 z) (fun q => absurd q (by first | exact fun y => y z | exact fun y => absurd z (by simpa using y) | (simp; exact z)))
  · exact lv_if_le C.1 C.2.1 hdg ht (fun q => absurd q (by first | exact z | exact fun y => z (by simpa using y))) (fun q => a2 z)
theorem jr_icmp_eq {a b : Int} {off : Int} {tgt : Nat} {P P2 : Prop} (C : Cx G p s args m c cc nL own) (ha : jR a) (hb : jR b) (h : if a = b then P else P2) (hdg : decode cc pc = .ok (.if_icmp .eq off, 3)) (ht : (pc : Int) + off = (tgt : Int))
    (k1 : a = b → P → W p l e R s m args below meth c H locs cells slots Q (F0 m tgt ls rest)) (k2 : ¬ a = b → P2 → W p l e R s m args below meth c H locs cells slots Q (F0 m (pc + 3) ls rest)) : W p l e R s m args below meth c H locs cells slots Q (F0 m pc ls (.int (jI b) :: .int (jI a) :: rest)) := by
  have ee : (jI a = jI b) ↔ a = b := jI_eq ha hb
  have a1 : (jI a = jI b) → W p l e R s m args below meth c H locs cells slots Q (F0 m tgt ls rest) := fun q => k1 (ee.mp q) (by rw [if_pos (ee.mp q)] at h; exact h)
  have a2 : ¬ (jI a = jI b) → W p l e R s m args below meth c H locs cells slots Q (F0 m (pc + 3) ls rest) := fun q => k2 (fun z => q (ee.mpr z)) (by rw [if_neg (fun z => q (ee.mpr z))] at h; exact h)
  -- kt : x = y ; kf : ¬ x = y
  by_cases z : jI a = jI b
  · exact lv_icmp_eq C.1 C.2.1 hdg ht (fun q => a1 z) (fun q => absurd q (by first | exact fun y => y z | (simp; exact z)))
  · exact lv_icmp_eq C.1 C.2.1 hdg ht (fun q => absurd q (by first | exact z | exact fun y => z (by simpa using y))) (fun q => a2 z)
theorem jr_icmp_ne {a b : Int} {off : Int} {tgt : Nat} {P P2 : Prop} (C : Cx G p s args m c cc nL own) (ha : jR a) (hb : jR b) (h : if a = b then P else P2) (hdg : decode cc pc = .ok (.if_icmp .ne off, 3)) (ht : (pc : Int) + off = (tgt : Int))
    (k1 : a = b → P → W p l e R s m args below meth c H locs cells slots Q (F0 m (pc + 3) ls rest)) (k2 : ¬ a = b → P2 → W p l e R s m args below meth c H locs cells slots Q (F0 m tgt ls rest)) : W p l e R s m args below meth c H locs cells slots Q (F0 m pc ls (.int (jI b) :: .int (jI a) :: rest)) := by
  have ee : (jI a = jI b) ↔ a = b := jI_eq ha hb
  have a1 : (jI a = jI b) → W p l e R s m args below meth c H locs cells slots Q (F0 m (pc + 3) ls rest) := fun q => k1 (ee.mp q) (by rw [if_pos (ee.mp q)] at h; exact h)
  have a2 : ¬ (jI a = jI b) → W p l e R s m args below meth c H locs cells slots Q (F0 m tgt ls rest) := fun q => k2 (fun z => q (ee.mpr z)) (by rw [if_neg (fun z => q (ee.mpr z))] at h; exact h)
  -- kt : ¬ x = y ; kf : x = y
  by_cases z : jI a = jI b
  · exact lv_icmp_ne C.1 C.2.1 hdg ht (fun q => absurd q (by first | exact fun y => y z | exact Int32.not_lt.mpr z | exact Int32.not_le.mpr z | (simp; exact z))) (fun q => a1 z)
  · exact lv_icmp_ne C.1 C.2.1 hdg ht (fun q => a2 z) (fun q => absurd q (by first | exact z | exact fun y => y z | exact fun y => y (by first | exact z | exact Int32.not_lt.mp z | exact Int32.not_le.mp z)))
theorem jr_icmp_lt {a b : Int} {off : Int} {tgt : Nat} {P P2 : Prop} (C : Cx G p s args m c cc nL own) (ha : jR a) (hb : jR b) (h : if a < b then P else P2) (hdg : decode cc pc = .ok (.if_icmp .lt off, 3)) (ht : (pc : Int) + off = (tgt : Int))
    (k1 : a < b → P → W p l e R s m args below meth c H locs cells slots Q (F0 m tgt ls rest)) (k2 : ¬ a < b → P2 → W p l e R s m args below meth c H locs cells slots Q (F0 m (pc + 3) ls rest)) : W p l e R s m args below meth c H locs cells slots Q (F0 m pc ls (.int (jI b) :: .int (jI a) :: rest)) := by
  have ee : (jI a < jI b) ↔ a < b := jI_lt ha hb
  have a1 : (jI a < jI b) → W p l e R s m args below meth c H locs cells slots Q (F0 m tgt ls rest) := fun q => k1 (ee.mp q) (by rw [if_pos (ee.mp q)] at h; exact h)
  have a2 : ¬ (jI a < jI b) → W p l e R s m args below meth c H locs cells slots Q (F0 m (pc + 3) ls rest) := fun q => k2 (fun z => q (ee.mpr z)) (by rw [if_neg (fun z => q (ee.mpr z))] at h; exact h)
  -- kt : x < y ; kf : ¬ x < y
  by_cases z : jI a < jI b
  · exact lv_icmp_lt C.1 C.2.1 hdg ht (fun q => a1 z) (fun q => absurd q (by first | exact fun y => y z | (simp; exact z)))
  · exact lv_icmp_lt C.1 C.2.1 hdg ht (fun q => absurd q (by first | exact z | exact fun y => z (by simpa using y))) (fun q => a2 z)
theorem jr_icmp_ge {a b : Int} {off : Int} {tgt : Nat} {P P2 : Prop} (C : Cx G p s args m c cc nL own) (ha : jR a) (hb : jR b) (h : if a < b then P else P2) (hdg : decode cc pc = .ok (.if_icmp .ge off, 3)) (ht : (pc : Int) + off = (tgt : Int))
    (k1 : a < b → P → W p l e R s m args below meth c H locs cells slots Q (F0 m (pc + 3) ls rest)) (k2 : ¬ a < b → P2 → W p l e R s m args below meth c H locs cells slots Q (F0 m tgt ls rest)) : W p l e R s m args below meth c H locs cells slots Q (F0 m pc ls (.int (jI b) :: .int (jI a) :: rest)) := by
  have ee : (jI a < jI b) ↔ a < b := jI_lt ha hb
  have a1 : (jI a < jI b) → W p l e R s m args below meth c H locs cells slots Q (F0 m (pc + 3) ls rest) := fun q => k1 (ee.mp q) (by rw [if_pos (ee.mp q)] at h; exact h)
  have a2 : ¬ (jI a < jI b) → W p l e R s m args below meth c H locs cells slots Q (F0 m tgt ls rest) := fun q => k2 (fun z => q (ee.mpr z)) (by rw [if_neg (fun z => q (ee.mpr z))] at h; exact h)
  -- kt : y ≤ x ; kf : ¬ y ≤ x
  by_cases z : jI a < jI b
  · exact lv_icmp_ge C.1 C.2.1 hdg ht (fun q => absurd q (by first | exact fun y => y z | exact Int32.not_lt.mpr z | exact Int32.not_le.mpr z | (simp; exact z))) (fun q => a1 z)
  · exact lv_icmp_ge C.1 C.2.1 hdg ht (fun q => a2 z) (fun q => absurd q (by first | exact z | exact fun y => y z | exact fun y => y (by first | exact z | exact Int32.not_lt.mp z | exact Int32.not_le.mp z)))
theorem jr_icmp_gt {a b : Int} {off : Int} {tgt : Nat} {P P2 : Prop} (C : Cx G p s args m c cc nL own) (ha : jR a) (hb : jR b) (h : if a ≤ b then P else P2) (hdg : decode cc pc = .ok (.if_icmp .gt off, 3)) (ht : (pc : Int) + off = (tgt : Int))
    (k1 : a ≤ b → P → W p l e R s m args below meth c H locs cells slots Q (F0 m (pc + 3) ls rest)) (k2 : ¬ a ≤ b → P2 → W p l e R s m args below meth c H locs cells slots Q (F0 m tgt ls rest)) : W p l e R s m args below meth c H locs cells slots Q (F0 m pc ls (.int (jI b) :: .int (jI a) :: rest)) := by
  have ee : (jI a ≤ jI b) ↔ a ≤ b := jI_le ha hb
  have a1 : (jI a ≤ jI b) → W p l e R s m args below meth c H locs cells slots Q (F0 m (pc + 3) ls rest) := fun q => k1 (ee.mp q) (by rw [if_pos (ee.mp q)] at h; exact h)
  have a2 : ¬ (jI a ≤ jI b) → W p l e R s m args below meth c H locs cells slots Q (F0 m tgt ls rest) := fun q => k2 (fun z => q (ee.mpr z)) (by rw [if_neg (fun z => q (ee.mpr z))] at h; exact h)
  -- kt : y < x ; kf : ¬ y < x
  by_cases z : jI a ≤ jI b
  · exact lv_icmp_gt C.1 C.2.1 hdg ht (fun q => absurd q (by first | exact fun y => y z | exact Int32.not_lt.mpr z | exact Int32.not_le.mpr z | (simp; exact z))) (fun q => a1 z)
  · exact lv_icmp_gt C.1 C.2.1 hdg ht (fun q => a2 z) (fun q => absurd q (by first | exact z | exact fun y => y z | exact fun y => y (by first | exact z | exact Int32.not_lt.mp z | exact Int32.not_le.mp z)))
theorem jr_icmp_le {a b : Int} {off : Int} {tgt : Nat} {P P2 : Prop} (C : Cx G p s args m c cc nL own) (ha : jR a) (hb : jR b) (h : if a ≤ b then P else P2) (hdg : decode cc pc = .ok (.if_icmp .le off, 3)) (ht : (pc : Int) + off = (tgt : Int))
    (k1 : a ≤ b → P → W p l e R s m args below meth c H locs cells slots Q (F0 m tgt ls rest)) (k2 : ¬ a ≤ b → P2 → W p l e R s m args below meth c H locs cells slots Q (F0 m (pc + 3) ls rest)) : W p l e R s m args below meth c H locs cells slots Q (F0 m pc ls (.int (jI b) :: .int (jI a) :: rest)) := by
  have ee : (jI a ≤ jI b) ↔ a ≤ b := jI_le ha hb
  have a1 : (jI a ≤ jI b) → W p l e R s m args below meth c H locs cells slots Q (F0 m tgt ls rest) := fun q => k1 (ee.mp q) (by rw [if_pos (ee.mp q)] at h; exact h)
  have a2 : ¬ (jI a ≤ jI b) → W p l e R s m args below meth c H locs cells slots Q (F0 m (pc + 3) ls rest) := fun q => k2 (fun z => q (ee.mpr z)) (by rw [if_neg (fun z => q (ee.mpr z))] at h; exact h)
  -- kt : x ≤ y ; kf : ¬ x ≤ y
  by_cases z : jI a ≤ jI b
  · exact lv_icmp_le C.1 C.2.1 hdg ht (fun q => a1 z) (fun q => absurd q (by first | exact fun y => y z | (simp; exact z)))
  · exact lv_icmp_le C.1 C.2.1 hdg ht (fun q => absurd q (by first | exact z | exact fun y => z (by simpa using y))) (fun q => a2 z)
theorem jr_ifnull {t : Int} {off : Int} {tgt : Nat} {P P2 : Prop} (C : Cx G p s args m c cc nL own) (h : if t < 0 then P else P2) (hdg : decode cc pc = .ok (.ifnull off, 3)) (ht : (pc : Int) + off = (tgt : Int)) (k1 : t < 0 → P → W p l e R s m args below meth c H locs cells slots Q (F0 m tgt ls rest)) (k2 : ¬ t < 0 → P2 → W p l e R s m args below meth c H locs cells slots Q (F0 m (pc + 3) ls rest)) : W p l e R s m args below meth c H locs cells slots Q (F0 m pc ls (jN G t :: rest)) := by
  by_cases z : t < 0
  · rw [jN_null z]
    rw [if_pos z] at h
    exact lv_ifnullN C.1 C.2.1 hdg ht (k1 z h)
  · rw [jN_ref z]
    rw [if_neg z] at h
    exact lv_ifnull C.1 C.2.1 hdg (k2 z h)
theorem jr_ifnonnull {t : Int} {off : Int} {tgt : Nat} {P P2 : Prop} (C : Cx G p s args m c cc nL own) (h : if t < 0 then P else P2) (hdg : decode cc pc = .ok (.ifnonnull off, 3)) (ht : (pc : Int) + off = (tgt : Int)) (k1 : t < 0 → P → W p l e R s m args below meth c H locs cells slots Q (F0 m (pc + 3) ls rest)) (k2 : ¬ t < 0 → P2 → W p l e R s m args below meth c H locs cells slots Q (F0 m tgt ls rest)) : W p l e R s m args below meth c H locs cells slots Q (F0 m pc ls (jN G t :: rest)) := by
  by_cases z : t < 0
  · rw [jN_null z]
    rw [if_pos z] at h
    exact lv_ifnonnullN C.1 C.2.1 hdg (k1 z h)
  · rw [jN_ref z]
    rw [if_neg z] at h
    exact lv_ifnonnull C.1 C.2.1 hdg ht (k2 z h)
theorem jr_aload_nN {k : Fin 4} {i : Nat} {t : Int} (C : Cx G p s args m c cc nL own) (hdg : decode cc pc = .ok (.aload_n k, 1)) (hi : (k : Nat) = i) (hl : ls[i]? = some (.val (jN G t))) (kk : W p l e R s m args below meth c H locs cells slots Q (F0 m (pc + 1) ls (jN G t :: rest))) : W p l e R s m args below meth c H locs cells slots Q (F0 m pc ls rest) := by
  by_cases z : t < 0
  · rw [jN_null z] at hl kk
    exact lv_aload_nN C.1 C.2.1 hdg hi hl kk
  · rw [jN_ref z] at hl kk
    exact lv_aload_n C.1 C.2.1 hdg hi hl kk
theorem jr_aloadN {i : Nat} {t : Int} (C : Cx G p s args m c cc nL own) (hdg : decode cc pc = .ok (.aload i, 2)) (hl : ls[i]? = some (.val (jN G t))) (kk : W p l e R s m args below meth c H locs cells slots Q (F0 m (pc + 2) ls (jN G t :: rest))) : W p l e R s m args below meth c H locs cells slots Q (F0 m pc ls rest) := by
  by_cases z : t < 0
  · rw [jN_null z] at hl kk
    exact lv_aloadN C.1 C.2.1 hdg hl kk
  · rw [jN_ref z] at hl kk
    exact lv_aload C.1 C.2.1 hdg hl kk
theorem jr_astore_nN {k : Fin 4} {i : Nat} {t : Int} {lv lv' : List (Nat × Value)} (C : Cx G p s args m c cc nL own) (hdg : decode cc pc = .ok (.astore_n k, 1)) (hi : (k : Nat) = i) (h : lv_has ls nL lv) (hn : i < nL) (hl : (i, jN G t) :: lv.filter (fun q => !(q.1 == i) && !(q.1 + 1 == i && q.2.category == 2)) = lv') (kk : ∀ ls' : Array Slot, lv_has ls' nL lv' → W p l e R s m args below meth c H locs cells slots Q (F0 m (pc + 1) ls' rest)) : W p l e R s m args below meth c H locs cells slots Q (F0 m pc ls (jN G t :: rest)) := by
  by_cases z : t < 0
  · rw [jN_null z] at hl ⊢
    exact lv_astore_nN C.1 C.2.1 hdg hi h hn hl kk
  · rw [jN_ref z] at hl ⊢
    exact lv_astore_n C.1 C.2.1 hdg hi h hn hl kk
theorem jr_astoreN {i : Nat} {t : Int} {lv lv' : List (Nat × Value)} (C : Cx G p s args m c cc nL own) (hdg : decode cc pc = .ok (.astore i, 2)) (h : lv_has ls nL lv) (hn : i < nL) (hl : (i, jN G t) :: lv.filter (fun q => !(q.1 == i) && !(q.1 + 1 == i && q.2.category == 2)) = lv') (kk : ∀ ls' : Array Slot, lv_has ls' nL lv' → W p l e R s m args below meth c H locs cells slots Q (F0 m (pc + 2) ls' rest)) : W p l e R s m args below meth c H locs cells slots Q (F0 m pc ls (jN G t :: rest)) := by
  by_cases z : t < 0
  · rw [jN_null z] at hl ⊢
    exact lv_astoreN C.1 C.2.1 hdg h hn hl kk
  · rw [jN_ref z] at hl ⊢
    exact lv_astore C.1 C.2.1 hdg h hn hl kk
theorem jr_tableIn {dflt lo hi : Int} {offs : Array Int} {len : Nat} {x v : Int} {off : Int} {tgt : Nat} (C : Cx G p s args m c cc nL own) (hr : jR x) (hx : x = v) (h1 : ¬ v < lo) (h2 : ¬ hi < v) (ho : offs[(v - lo).toNat]? = some off) (hdg : decode cc pc = .ok (.tableswitch dflt lo hi offs, len)) (ht : (pc : Int) + off = (tgt : Int)) (kk : W p l e R s m args below meth c H locs cells slots Q (F0 m tgt ls rest)) : W p l e R s m args below meth c H locs cells slots Q (F0 m pc ls (.int (jI x) :: rest)) := by
  subst hx
  exact lv_tableIn C.1 C.2.1 hdg (by rw [jI_toInt hr]; exact h1) (by rw [jI_toInt hr]; exact h2) (by rw [jI_toInt hr]; exact ho) ht kk
theorem jr_tableOut {dflt lo hi : Int} {offs : Array Int} {len : Nat} {x : Int} {tgt : Nat} (C : Cx G p s args m c cc nL own) (hr : jR x) (h1 : x < lo ∨ hi < x) (hdg : decode cc pc = .ok (.tableswitch dflt lo hi offs, len)) (ht : (pc : Int) + dflt = (tgt : Int)) (kk : W p l e R s m args below meth c H locs cells slots Q (F0 m tgt ls rest)) : W p l e R s m args below meth c H locs cells slots Q (F0 m pc ls (.int (jI x) :: rest)) :=
  lv_tableOut C.1 C.2.1 hdg (by rw [jI_toInt hr]; exact h1) ht kk
theorem jr_lookup {dflt : Int} {ps : Array (Int × Int)} {len : Nat} {x : Int} {off : Int} {tgt : Nat} (C : Cx G p s args m c cc nL own) (hr : jR x) (hp : (ps.toList.zip (ps.toList.drop 1)).all (fun (a, next) => a.1 < next.1) = true) (ho : Op.lookupswitch.offset ps.toList dflt x = off) (hdg : decode cc pc = .ok (.lookupswitch dflt ps, len)) (ht : (pc : Int) + off = (tgt : Int)) (kk : W p l e R s m args below meth c H locs cells slots Q (F0 m tgt ls rest)) : W p l e R s m args below meth c H locs cells slots Q (F0 m pc ls (.int (jI x) :: rest)) :=
  lv_lookup C.1 C.2.1 hdg hp (by rw [jI_toInt hr]; exact ho) ht kk
theorem jr_mmax {idx : Nat} {a b : Int} (C : Cx G p s args m c cc nL own) (hl : ls.size = nL) (q1 : Cond.methodLink own idx Lib.Math.max.name ∈ tb) (q2 : Cond.static Lib.Math.max.name ∈ tb) (q3 : Cond.initialized "java/lang/Math" ∈ tb) (q4 : Cond.code Lib.Math.max.name Lib.Math.max.code 2 (some .int) ∈ tb) (ha : jR a) (hb : jR b) (hf : 1 ≤ R.frames) (hlo : (rest.map fun v => v.category).sum + 13 ≤ R.locals) (hcs : cells ≤ R.cells ∧ slots ≤ R.slots) (hdg : decode cc pc = .ok (.invokestatic idx, 3)) (kk : W p l e R s m args below meth c H locs cells slots Q (F0 m (pc + 3) ls (.int (jI (jMax a b)) :: rest))) : W p l e R s m args below meth c H locs cells slots Q (F0 m pc ls (.int (jI b) :: .int (jI a) :: rest)) :=
  va_mmax C.1 C.2.1 (C.2.2.1.trans hl.symm) C.2.2.2.1 (C.2.2.2.2.1 _ q1) (C.2.2.2.2.1 _ q2) (C.2.2.2.2.1 _ q3) (C.2.2.2.2.1 _ q4) hf hlo hcs.1 hcs.2 hdg (by rw [jI_max ha hb]; exact kk)
theorem jr_mmin {idx : Nat} {a b : Int} (C : Cx G p s args m c cc nL own) (hl : ls.size = nL) (q1 : Cond.methodLink own idx Lib.Math.min.name ∈ tb) (q2 : Cond.static Lib.Math.min.name ∈ tb) (q3 : Cond.initialized "java/lang/Math" ∈ tb) (q4 : Cond.code Lib.Math.min.name Lib.Math.min.code 2 (some .int) ∈ tb) (ha : jR a) (hb : jR b) (hf : 1 ≤ R.frames) (hlo : (rest.map fun v => v.category).sum + 13 ≤ R.locals) (hcs : cells ≤ R.cells ∧ slots ≤ R.slots) (hdg : decode cc pc = .ok (.invokestatic idx, 3)) (kk : W p l e R s m args below meth c H locs cells slots Q (F0 m (pc + 3) ls (.int (jI (jMin a b)) :: rest))) : W p l e R s m args below meth c H locs cells slots Q (F0 m pc ls (.int (jI b) :: .int (jI a) :: rest)) :=
  va_mmin C.1 C.2.1 (C.2.2.1.trans hl.symm) C.2.2.2.1 (C.2.2.2.2.1 _ q1) (C.2.2.2.2.1 _ q2) (C.2.2.2.2.1 _ q3) (C.2.2.2.2.1 _ q4) hf hlo hcs.1 hcs.2 hdg (by rw [jI_min ha hb]; exact kk)
theorem jr_mabs {idx : Nat} {a : Int} (C : Cx G p s args m c cc nL own) (hl : ls.size = nL) (q1 : Cond.methodLink own idx Lib.Math.abs.name ∈ tb) (q2 : Cond.static Lib.Math.abs.name ∈ tb) (q3 : Cond.initialized "java/lang/Math" ∈ tb) (q4 : Cond.code Lib.Math.abs.name Lib.Math.abs.code 1 (some .int) ∈ tb) (ha : jR a) (hf : 1 ≤ R.frames) (hlo : (rest.map fun v => v.category).sum + 13 ≤ R.locals) (hcs : cells ≤ R.cells ∧ slots ≤ R.slots) (hdg : decode cc pc = .ok (.invokestatic idx, 3)) (kk : W p l e R s m args below meth c H locs cells slots Q (F0 m (pc + 3) ls (.int (jI (jAbs a)) :: rest))) : W p l e R s m args below meth c H locs cells slots Q (F0 m pc ls (.int (jI a) :: rest)) := by
  exact va_mabs C.1 C.2.1 (C.2.2.1.trans hl.symm) C.2.2.2.1 (C.2.2.2.2.1 _ q1) (C.2.2.2.2.1 _ q2) (C.2.2.2.2.1 _ q3) (C.2.2.2.2.1 _ q4) hf hlo hcs.1 hcs.2 hdg (by rw [jI_abs ha]; exact kk)
end JI
end
section
/-! a method's start, its ends, and calls -/
theorem jm_start {l : Launch} {y : MethodName} {b : ByteArray} {n : Nat} {r : Option FieldType} {rm : Room} {G : jG} {M : jM} {av : List Value} {Qc : Array Value → State → Outcome → State → Prop} (own : String) (ho : y.cls = own) (hy : plainName y.cls = true) (hlen : (lg_sl av).length ≤ n) (hok : jOK M)
    (body : ∀ (p : Program) (e : Env) (s : State) (m : MethodId) (args : Array Value) (below : List Frame) (meth : Method) (c : Code) (ls : Array Slot), Cx G p s args m c b n own → meth.sig.returnType = r → meth.locks = false → lv_has ls n (lv_args 0 av) → Hp G M s.heap s.heap [] → W p l e rm s m args below meth c s.heap [] 0 0 (MQ below Qc args s 0 0 (gA G)) (F0 m 0 ls [])) : Met l y (wsG y b n r) rm (jPc G M av) Qc 0 0 (gA G) := by
  refine Met.ofW (cc := b) (maxL := n) (ret := r) hy rfl ?_
  intro p e s m args below meth c s₁ B hml hv
  obtain ⟨rfl, hP, hK⟩ := hv
  have hl := lv_entry av (n := n) hlen
  rw [lg_entry_eq]
  generalize (lg_sl av ++ List.replicate (n - (lg_sl av).length) Slot.unset).toArray = ls at hl ⊢
  have hts := atoms_spec (ws := wsG y b n r) B.pre
  exact body p e s m _ below meth c ls ⟨B.exec, B.bytes, hml, by rw [← ho]; exact findClass_of_methodNamed B.named, fun w hw => hts w (List.mem_cons_of_mem _ hw), hK⟩ B.returns B.notSynchronized hl ⟨hP, va_S.rf, hok⟩
section JE
variable {p : Program} {l : Launch} {e : Env} {R : Room} {s : State} {m : MethodId} {args : Array Value} {below : List Frame} {meth : Method} {c : Code} {H : Heap} {locs : List Loc} {cells slots : Nat} {Q : State → Prop} {cc : ByteArray} {nL : Nat} {own : String} {G : jG} {M : jM} {pc : Nat} {ls : Array Slot} {rest : List Value}
theorem jr_iret {k : Int → jM → Prop} {v : Int} (C : Cx G p s args m c cc nL own) (B : Hp G M s.heap H locs) (hr : meth.sig.returnType = some .int) (hlocks : meth.locks = false) (hv : jR v) (h : k v M) (hdg : decode cc pc = .ok (.ireturn, 1)) : W p l e R s m args below meth c H locs cells slots (MQ below (qI G k) args s cells slots (gA G)) (F0 m pc ls [.int (jI v)]) :=
  W.iret C.1 C.2.1 hr (fun t ht _ => ⟨⟨jI v, (v, M), rfl, ⟨rfl, hv, h, B.2.2⟩, by (dsimp only); rw [ht]; exact B.1⟩, B.2.1.F ht⟩) B.2.1.2.2 hdg hlocks
theorem jI_nb {v : Int} (hv : v = 0 ∨ v = 1) : narrow .boolean (.int (jI v)) = .int (jI v) := by rcases hv with rfl | rfl <;> decide
theorem jr_zret {k : Int → jM → Prop} {v : Int} (C : Cx G p s args m c cc nL own) (B : Hp G M s.heap H locs) (hr : meth.sig.returnType = some .boolean) (hlocks : meth.locks = false) (hv : v = 0 ∨ v = 1) (h : k v M) (hdg : decode cc pc = .ok (.ireturn, 1)) : W p l e R s m args below meth c H locs cells slots (MQ below (qZ G k) args s cells slots (gA G)) (F0 m pc ls [.int (jI v)]) :=
  W.zret C.1 C.2.1 hr (jI_nb hv) (fun t ht _ => ⟨⟨jI v, (v, M), rfl, ⟨rfl, hv, h, B.2.2⟩, by (dsimp only); rw [ht]; exact B.1⟩, B.2.1.F ht⟩) B.2.1.2.2 hdg hlocks
theorem jr_vret {k : jM → Prop} (C : Cx G p s args m c cc nL own) (B : Hp G M s.heap H locs) (hr : meth.sig.returnType = none) (hlocks : meth.locks = false) (h : k M) (hdg : decode cc pc = .ok (.return_, 1)) : W p l e R s m args below meth c H locs cells slots (MQ below (qV G k) args s cells slots (gA G)) (F0 m pc ls []) :=
  W.vret C.1 C.2.1 hr (fun t ht _ => ⟨⟨M, rfl, ⟨h, B.2.2⟩, by (dsimp only); rw [ht]; exact B.1⟩, B.2.1.F ht⟩) B.2.1.2.2 hdg hlocks
theorem jr_rret {k : Int → jM → Prop} {v : Int} {rt : String} (C : Cx G p s args m c cc nL own) (B : Hp G M s.heap H locs) (hr : meth.sig.returnType = some (.object rt)) (hlocks : meth.locks = false) (hv : jK v = 2) (h : k v M) (hdg : decode cc pc = .ok (.areturn, 1)) : W p l e R s m args below meth c H locs cells slots (MQ below (qQ G k) args s cells slots (gA G)) (F0 m pc ls [.ref (jD G v)]) :=
  W.aret C.1 C.2.1 hr (Or.inl ⟨_, rfl⟩) (Or.inr ⟨_, rfl⟩) (fun t ht _ => ⟨⟨some (jD G v), (v, M), rfl, ⟨(if_neg (jK_nn (by rw [hv]; decide))).symm, Or.inr hv, h, B.2.2⟩, by (dsimp only); rw [ht]; exact B.1⟩, B.2.1.F ht⟩) B.2.1.2.2 hdg hlocks
theorem jr_nret {k : Int → jM → Prop} {rt : String} (C : Cx G p s args m c cc nL own) (B : Hp G M s.heap H locs) (hr : meth.sig.returnType = some (.object rt)) (hlocks : meth.locks = false) (h : k (-1) M) (hdg : decode cc pc = .ok (.areturn, 1)) : W p l e R s m args below meth c H locs cells slots (MQ below (qQ G k) args s cells slots (gA G)) (F0 m pc ls [.null]) :=
  W.aret C.1 C.2.1 hr (Or.inl ⟨_, rfl⟩) (Or.inl rfl) (fun t ht _ => ⟨⟨none, (-1, M), rfl, ⟨rfl, Or.inl (by show (-1 : Int) < 0; decide), h, B.2.2⟩, by (dsimp only); rw [ht]; exact B.1⟩, B.2.1.F ht⟩) B.2.1.2.2 hdg hlocks
variable {y : MethodName} {bytes : ByteArray} {maxL n idx : Nat} {ret : Option FieldType} {rm : Room} {Qc : Array Value → State → Outcome → State → Prop} {As st : List Value} {o : Int} {H0 : Heap}
theorem jr_runV (C : Cx G p s args m c cc nL own) (hl : ls.size = nL) (B : Hp G M H0 H locs) (hM : Met l y (wsG y bytes maxL ret) rm (jPc G M (.ref (jD G o) :: As)) Qc 0 0 (gA G)) {ci : Nat} {fs : List Value} {T : u_T} {N : Nat} (he : jE G M o = .inr (ci, fs)) (h0 : jK o ≠ 0) (hc : vwCl[ci]? = some (y.cls, T, N)) (q1 : Cond.methodLink own idx y ∈ tb) (q2 : Cond.instanceMethod y ∈ tb) (q3 : Cond.selects y.cls y y ∈ tb) (q4 : Cond.code y bytes maxL ret ∈ tb) (q5 : Cond.initialized y.cls ∈ tb) (hd : y.cls ≠ "java/lang/invoke/MethodHandle" ∧ y.cls ≠ "java/lang/invoke/VarHandle" ∧ (parseMethodDescriptor y.desc).map (fun d => d.parameters.length) = some n) (hn : As.length = n) (hrc : rm.cells = 0 ∧ rm.slots = 0) (hR : rm.frames + 1 ≤ R.frames ∧ 8 + (maxL + 11) + rm.locals ≤ R.locals) (hcs : cells ≤ R.cells ∧ slots ≤ R.slots) (hst : st = As.reverse ++ .ref (jD G o) :: rest) (hW : (rest.map fun v => v.category).sum ≤ 8) (hdg : decode cc pc = .ok (.invokevirtual idx, 3)) : va_Run p l e R s m args below meth c H locs cells slots 0 0 (F0 m pc ls st) rest (Qc (Value.ref (jD G o) :: As).toArray) (gA G) :=
  va_runV ⟨C.1, C.2.1, C.2.2.1, C.2.2.2.1, C.2.2.2.2.1⟩ hM ⟨callB_of n C.2.2.2.2.1 (wsG_good q4) rfl hrc.1 hrc.2 (C.2.2.2.2.1 _ q5) (C.2.2.2.2.1 _ q1) hd hR, C.2.2.2.2.1 _ q2, C.2.2.2.2.1 _ q3⟩ ⟨jPc_blind, va_recv C.2.2.2.2.2.1 B.1 hc (q0 := o.toNat) (by rw [gW_get h0, he]), fun U hU hW => ⟨rfl, by rw [hU]; exact B.1, C.2.2.2.2.2.warm hW⟩⟩ rfl hn hl hst (lv_room hW) hdg hcs
theorem jr_runS (C : Cx G p s args m c cc nL own) (hl : ls.size = nL) (B : Hp G M H0 H locs) (hM : Met l y (wsG y bytes maxL ret) rm (jPc G M As) Qc 0 0 (gA G)) (q1 : Cond.methodLink own idx y ∈ tb) (q2 : Cond.static y ∈ tb) (q4 : Cond.code y bytes maxL ret ∈ tb) (q5 : Cond.initialized y.cls ∈ tb) (hd : y.cls ≠ "java/lang/invoke/MethodHandle" ∧ y.cls ≠ "java/lang/invoke/VarHandle" ∧ (parseMethodDescriptor y.desc).map (fun d => d.parameters.length) = some n) (hn : As.length = n) (hrc : rm.cells = 0 ∧ rm.slots = 0) (hR : rm.frames + 1 ≤ R.frames ∧ 8 + (maxL + 11) + rm.locals ≤ R.locals) (hcs : cells ≤ R.cells ∧ slots ≤ R.slots) (hst : st = As.reverse ++ rest) (hW : (rest.map fun v => v.category).sum ≤ 8) (hdg : decode cc pc = .ok (.invokestatic idx, 3)) : va_Run p l e R s m args below meth c H locs cells slots 0 0 (F0 m pc ls st) rest (Qc As.toArray) (gA G) :=
  va_runS ⟨C.1, C.2.1, C.2.2.1, C.2.2.2.1, C.2.2.2.2.1⟩ hM ⟨callB_of n C.2.2.2.2.1 (wsG_good q4) rfl hrc.1 hrc.2 (C.2.2.2.2.1 _ q5) (C.2.2.2.2.1 _ q1) hd hR, C.2.2.2.2.1 _ q2⟩ ⟨jPc_blind, fun U hU hW => ⟨rfl, by rw [hU]; exact B.1, C.2.2.2.2.2.warm hW⟩⟩ rfl hn hl hst (lv_room hW) hdg hcs
theorem jr_runN {host : String} (C : Cx G p s args m c cc nL own) (hl : ls.size = nL) (B : Hp G M H0 H locs) (hM : Met l y (wsG y bytes maxL ret) rm (jPc G M As) Qc 0 0 (gA G)) (q1 : va_Nw (.methodLinkNest own idx y host) s) (q2 : Cond.static y ∈ tb) (q4 : Cond.code y bytes maxL ret ∈ tb) (q5 : Cond.initialized y.cls ∈ tb) (hd : y.cls ≠ "java/lang/invoke/MethodHandle" ∧ y.cls ≠ "java/lang/invoke/VarHandle" ∧ (parseMethodDescriptor y.desc).map (fun d => d.parameters.length) = some n) (hn : As.length = n) (hrc : rm.cells = 0 ∧ rm.slots = 0) (hR : rm.frames + 1 ≤ R.frames ∧ 8 + (maxL + 11) + rm.locals ≤ R.locals) (hcs : cells ≤ R.cells ∧ slots ≤ R.slots) (hst : st = As.reverse ++ rest) (hW : (rest.map fun v => v.category).sum ≤ 8) (hdg : decode cc pc = .ok (.invokestatic idx, 3)) : va_Run p l e R s m args below meth c H locs cells slots 0 0 (F0 m pc ls st) rest (Qc As.toArray) (gA G) :=
  va_runSN ⟨C.1, C.2.1, C.2.2.1, C.2.2.2.1, C.2.2.2.2.1⟩ hM ⟨va_cnB n C.2.2.2.2.1 (wsG_good q4) rfl hrc.1 hrc.2 q1 (C.2.2.2.2.1 _ q5) hd hR, C.2.2.2.2.1 _ q2, trivial⟩ ⟨jPc_blind, fun U hU hW => ⟨rfl, by rw [hU]; exact B.1, C.2.2.2.2.2.warm hW⟩⟩ rfl hn hl hst (lv_room hW) hdg hcs
theorem jr_callI {k : Int → jM → Prop} {a : Array Value} (B : Hp G M H0 H locs) (hr : va_Run p l e R s m args below meth c H locs cells slots 0 0 (F0 m pc ls st) rest (qI G k a) (gA G)) (kk : ∀ (r : Int) (M' : jM) (H1 : Heap) (locs1 : List Loc), jR r → k r M' → Hp G M' H0 H1 locs1 → W p l e R s m args below meth c H1 locs1 cells slots Q (F0 m (pc + 3) ls (.int (jI r) :: rest))) : W p l e R s m args below meth c H locs cells slots Q (F0 m pc ls st) := by
  refine va_calli hr B.2.1 (fun _ _ h => h) (fun _ h => h) (fun r u t H1 locs1 ht _ hp hb _ _ hS => ?_)
  obtain ⟨rfl, h1, h2, h3⟩ := hp
  exact kk u.1 u.2 H1 locs1 h1 h2 ⟨by rw [← ht]; exact hb, hS, h3⟩
theorem jr_callZ {k : Int → jM → Prop} {a : Array Value} (B : Hp G M H0 H locs) (hr : va_Run p l e R s m args below meth c H locs cells slots 0 0 (F0 m pc ls st) rest (qZ G k a) (gA G)) (kk : ∀ (r : Int) (M' : jM) (H1 : Heap) (locs1 : List Loc), (r = 0 ∨ r = 1) → k r M' → Hp G M' H0 H1 locs1 → W p l e R s m args below meth c H1 locs1 cells slots Q (F0 m (pc + 3) ls (.int (jI r) :: rest))) : W p l e R s m args below meth c H locs cells slots Q (F0 m pc ls st) := by
  refine va_calli hr B.2.1 (fun _ _ h => h) (fun _ h => h) (fun r u t H1 locs1 ht _ hp hb _ _ hS => ?_)
  obtain ⟨rfl, h1, h2, h3⟩ := hp
  exact kk u.1 u.2 H1 locs1 h1 h2 ⟨by rw [← ht]; exact hb, hS, h3⟩
theorem jr_callV {k : jM → Prop} {a : Array Value} (B : Hp G M H0 H locs) (hr : va_Run p l e R s m args below meth c H locs cells slots 0 0 (F0 m pc ls st) rest (qV G k a) (gA G)) (kk : ∀ (M' : jM) (H1 : Heap) (locs1 : List Loc), k M' → Hp G M' H0 H1 locs1 → W p l e R s m args below meth c H1 locs1 cells slots Q (F0 m (pc + 3) ls rest)) : W p l e R s m args below meth c H locs cells slots Q (F0 m pc ls st) := by
  refine va_callv hr B.2.1 (fun _ _ h => h) (fun _ h => h) (fun u t H1 locs1 ht _ hp hb _ _ hS => ?_)
  exact kk u H1 locs1 hp.1 ⟨by rw [← ht]; exact hb, hS, hp.2⟩
theorem jr_callQ {k : Int → jM → Prop} {a : Array Value} (B : Hp G M H0 H locs) (hr : va_Run p l e R s m args below meth c H locs cells slots 0 0 (F0 m pc ls st) rest (qQ G k a) (gA G)) (kk : ∀ (r : Int) (M' : jM) (H1 : Heap) (locs1 : List Loc), (r < 0 ∨ jK r = 2) → k r M' → Hp G M' H0 H1 locs1 → W p l e R s m args below meth c H1 locs1 cells slots Q (F0 m (pc + 3) ls (jN G r :: rest))) : W p l e R s m args below meth c H locs cells slots Q (F0 m pc ls st) := by
  refine va_callq hr B.2.1 (fun _ _ h => h) (fun _ h => h) (fun r u t H1 locs1 ht _ hp hb _ _ hS => ?_)
  obtain ⟨rfl, h1, h2, h3⟩ := hp
  exact kk u.1 u.2 H1 locs1 h1 h2 ⟨by rw [← ht]; exact hb, hS, h3⟩
end JE
end
