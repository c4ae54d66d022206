section
-- ===== PART A: goes FIRST, ahead of the names: the tables' words, and 'selects' of the private methods out of them =====
/-- a private method of a class that the tables say can be made, by its rows of tables_1 -/
def lw_okq (q : MethodName × Nat) : Prop := (q.1.cls ≠ "java/lang/invoke/MethodHandle" ∧ q.1.cls ≠ "java/lang/invoke/VarHandle") ∧ Cond.instantiable q.1.cls q.2 ∈ tables_1 ∧ Cond.privateMethod q.1 ∈ tables_1 ∧ Cond.instanceMethod q.1 ∈ tables_1
theorem lw_p0 : lw_okq (⟨"GraphPages$Matching", "match", "(II)Z"⟩, 5) := ⟨⟨by decide +kernel, by decide +kernel⟩, List.mem_of_getElem? (i := 99) (by decide +kernel), List.mem_of_getElem? (i := 380) (by decide +kernel), List.mem_of_getElem? (i := 381) (by decide +kernel)⟩
theorem lw_p1 : lw_okq (⟨"GraphPages$Matching", "haveSameInside", "(II)Z"⟩, 5) := ⟨⟨by decide +kernel, by decide +kernel⟩, List.mem_of_getElem? (i := 99) (by decide +kernel), List.mem_of_getElem? (i := 384) (by decide +kernel), List.mem_of_getElem? (i := 385) (by decide +kernel)⟩
theorem lw_p2 : lw_okq (⟨"GraphPages$Matching", "haveSameCharacters", "(II)Z"⟩, 5) := ⟨⟨by decide +kernel, by decide +kernel⟩, List.mem_of_getElem? (i := 99) (by decide +kernel), List.mem_of_getElem? (i := 389) (by decide +kernel), List.mem_of_getElem? (i := 390) (by decide +kernel)⟩
theorem lw_p3 : lw_okq (⟨"GraphPages$Matching", "haveSameSlots", "(II)Z"⟩, 5) := ⟨⟨by decide +kernel, by decide +kernel⟩, List.mem_of_getElem? (i := 99) (by decide +kernel), List.mem_of_getElem? (i := 394) (by decide +kernel), List.mem_of_getElem? (i := 395) (by decide +kernel)⟩
theorem lw_p4 : lw_okq (⟨"GraphPages$Matching", "haveSameSlot", "(III)Z"⟩, 5) := ⟨⟨by decide +kernel, by decide +kernel⟩, List.mem_of_getElem? (i := 99) (by decide +kernel), List.mem_of_getElem? (i := 398) (by decide +kernel), List.mem_of_getElem? (i := 399) (by decide +kernel)⟩
theorem lw_p5 : lw_okq (⟨"GraphPages$Reach", "refer", "(I)V"⟩, 4) := ⟨⟨by decide +kernel, by decide +kernel⟩, List.mem_of_getElem? (i := 79) (by decide +kernel), List.mem_of_getElem? (i := 413) (by decide +kernel), List.mem_of_getElem? (i := 414) (by decide +kernel)⟩
theorem lw_p6 : lw_okq (⟨"GraphPages$Reach", "followSlots", "(I)V"⟩, 4) := ⟨⟨by decide +kernel, by decide +kernel⟩, List.mem_of_getElem? (i := 79) (by decide +kernel), List.mem_of_getElem? (i := 417) (by decide +kernel), List.mem_of_getElem? (i := 418) (by decide +kernel)⟩
theorem lw_p7 : lw_okq (⟨"GraphPages$Writer", "writeRow", "(Ljava/lang/String;)V"⟩, 6) := ⟨⟨by decide +kernel, by decide +kernel⟩, List.mem_of_getElem? (i := 121) (by decide +kernel), List.mem_of_getElem? (i := 443) (by decide +kernel), List.mem_of_getElem? (i := 444) (by decide +kernel)⟩
theorem lw_p8 : lw_okq (⟨"GraphPages$Writer", "writeReference", "(II)V"⟩, 6) := ⟨⟨by decide +kernel, by decide +kernel⟩, List.mem_of_getElem? (i := 121) (by decide +kernel), List.mem_of_getElem? (i := 499) (by decide +kernel), List.mem_of_getElem? (i := 500) (by decide +kernel)⟩
theorem lw_p9 : lw_okq (⟨"GraphPages$Writer", "giveId", "(I)V"⟩, 6) := ⟨⟨by decide +kernel, by decide +kernel⟩, List.mem_of_getElem? (i := 121) (by decide +kernel), List.mem_of_getElem? (i := 504) (by decide +kernel), List.mem_of_getElem? (i := 505) (by decide +kernel)⟩
theorem lw_p10 : lw_okq (⟨"GraphPages$Writer", "writeAttribute", "(Ljava/lang/String;I)V"⟩, 6) := ⟨⟨by decide +kernel, by decide +kernel⟩, List.mem_of_getElem? (i := 121) (by decide +kernel), List.mem_of_getElem? (i := 510) (by decide +kernel), List.mem_of_getElem? (i := 511) (by decide +kernel)⟩
theorem lw_p11 : lw_okq (⟨"GraphPages$Writer", "writeNumber", "(I)V"⟩, 6) := ⟨⟨by decide +kernel, by decide +kernel⟩, List.mem_of_getElem? (i := 121) (by decide +kernel), List.mem_of_getElem? (i := 515) (by decide +kernel), List.mem_of_getElem? (i := 516) (by decide +kernel)⟩
theorem lw_p12 : lw_okq (⟨"GraphPages$Writer", "writeElement", "(II)V"⟩, 6) := ⟨⟨by decide +kernel, by decide +kernel⟩, List.mem_of_getElem? (i := 121) (by decide +kernel), List.mem_of_getElem? (i := 521) (by decide +kernel), List.mem_of_getElem? (i := 522) (by decide +kernel)⟩
theorem lw_p13 : lw_okq (⟨"GraphPages$Writer", "firstWrittenSlot", "(I)I"⟩, 6) := ⟨⟨by decide +kernel, by decide +kernel⟩, List.mem_of_getElem? (i := 121) (by decide +kernel), List.mem_of_getElem? (i := 525) (by decide +kernel), List.mem_of_getElem? (i := 526) (by decide +kernel)⟩
theorem lw_p14 : lw_okq (⟨"GraphPages$Writer", "writeCharacters", "(I)V"⟩, 6) := ⟨⟨by decide +kernel, by decide +kernel⟩, List.mem_of_getElem? (i := 121) (by decide +kernel), List.mem_of_getElem? (i := 536) (by decide +kernel), List.mem_of_getElem? (i := 537) (by decide +kernel)⟩
theorem lw_p15 : lw_okq (⟨"GraphPages$Writer", "writeSlots", "(III)V"⟩, 6) := ⟨⟨by decide +kernel, by decide +kernel⟩, List.mem_of_getElem? (i := 121) (by decide +kernel), List.mem_of_getElem? (i := 544) (by decide +kernel), List.mem_of_getElem? (i := 545) (by decide +kernel)⟩
def lw_privs_1 : List (MethodName × Nat) := [(⟨"GraphPages$Matching", "match", "(II)Z"⟩, 5), (⟨"GraphPages$Matching", "haveSameInside", "(II)Z"⟩, 5), (⟨"GraphPages$Matching", "haveSameCharacters", "(II)Z"⟩, 5), (⟨"GraphPages$Matching", "haveSameSlots", "(II)Z"⟩, 5), (⟨"GraphPages$Matching", "haveSameSlot", "(III)Z"⟩, 5), (⟨"GraphPages$Reach", "refer", "(I)V"⟩, 4), (⟨"GraphPages$Reach", "followSlots", "(I)V"⟩, 4), (⟨"GraphPages$Writer", "writeRow", "(Ljava/lang/String;)V"⟩, 6), (⟨"GraphPages$Writer", "writeReference", "(II)V"⟩, 6), (⟨"GraphPages$Writer", "giveId", "(I)V"⟩, 6), (⟨"GraphPages$Writer", "writeAttribute", "(Ljava/lang/String;I)V"⟩, 6), (⟨"GraphPages$Writer", "writeNumber", "(I)V"⟩, 6), (⟨"GraphPages$Writer", "writeElement", "(II)V"⟩, 6), (⟨"GraphPages$Writer", "firstWrittenSlot", "(I)I"⟩, 6), (⟨"GraphPages$Writer", "writeCharacters", "(I)V"⟩, 6), (⟨"GraphPages$Writer", "writeSlots", "(III)V"⟩, 6)]
theorem lw_r1 : ∀ q ∈ lw_privs_1, lw_okq q := List.forall_mem_cons.mpr ⟨lw_p0, List.forall_mem_cons.mpr ⟨lw_p1, List.forall_mem_cons.mpr ⟨lw_p2, List.forall_mem_cons.mpr ⟨lw_p3, List.forall_mem_cons.mpr ⟨lw_p4, List.forall_mem_cons.mpr ⟨lw_p5, List.forall_mem_cons.mpr ⟨lw_p6, List.forall_mem_cons.mpr ⟨lw_p7, List.forall_mem_cons.mpr ⟨lw_p8, List.forall_mem_cons.mpr ⟨lw_p9, List.forall_mem_cons.mpr ⟨lw_p10, List.forall_mem_cons.mpr ⟨lw_p11, List.forall_mem_cons.mpr ⟨lw_p12, List.forall_mem_cons.mpr ⟨lw_p13, List.forall_mem_cons.mpr ⟨lw_p14, List.forall_mem_cons.mpr ⟨lw_p15, fun _ h => absurd h List.not_mem_nil⟩⟩⟩⟩⟩⟩⟩⟩⟩⟩⟩⟩⟩⟩⟩⟩
theorem lw_p16 : lw_okq (⟨"GraphPages$Writer", "behindLastWrittenSlot", "(I)I"⟩, 6) := ⟨⟨by decide +kernel, by decide +kernel⟩, List.mem_of_getElem? (i := 121) (by decide +kernel), List.mem_of_getElem? (i := 548) (by decide +kernel), List.mem_of_getElem? (i := 549) (by decide +kernel)⟩
theorem lw_p17 : lw_okq (⟨"GraphPages$FormReader", "readPiece", "()Z"⟩, 5) := ⟨⟨by decide +kernel, by decide +kernel⟩, List.mem_of_getElem? (i := 210) (by decide +kernel), List.mem_of_getElem? (i := 573) (by decide +kernel), List.mem_of_getElem? (i := 574) (by decide +kernel)⟩
theorem lw_p18 : lw_okq (⟨"GraphPages$FormReader", "readStart", "()Z"⟩, 5) := ⟨⟨by decide +kernel, by decide +kernel⟩, List.mem_of_getElem? (i := 210) (by decide +kernel), List.mem_of_getElem? (i := 581) (by decide +kernel), List.mem_of_getElem? (i := 582) (by decide +kernel)⟩
theorem lw_p19 : lw_okq (⟨"GraphPages$FormReader", "readName", "()I"⟩, 5) := ⟨⟨by decide +kernel, by decide +kernel⟩, List.mem_of_getElem? (i := 210) (by decide +kernel), List.mem_of_getElem? (i := 585) (by decide +kernel), List.mem_of_getElem? (i := 586) (by decide +kernel)⟩
theorem lw_p20 : lw_okq (⟨"GraphPages$FormReader", "skipSpaces", "()Z"⟩, 5) := ⟨⟨by decide +kernel, by decide +kernel⟩, List.mem_of_getElem? (i := 210) (by decide +kernel), List.mem_of_getElem? (i := 596) (by decide +kernel), List.mem_of_getElem? (i := 597) (by decide +kernel)⟩
theorem lw_p21 : lw_okq (⟨"GraphPages$FormReader", "readAttribute", "(I)Z"⟩, 5) := ⟨⟨by decide +kernel, by decide +kernel⟩, List.mem_of_getElem? (i := 210) (by decide +kernel), List.mem_of_getElem? (i := 600) (by decide +kernel), List.mem_of_getElem? (i := 601) (by decide +kernel)⟩
theorem lw_p22 : lw_okq (⟨"GraphPages$FormReader", "skip", "(C)Z"⟩, 5) := ⟨⟨by decide +kernel, by decide +kernel⟩, List.mem_of_getElem? (i := 210) (by decide +kernel), List.mem_of_getElem? (i := 608) (by decide +kernel), List.mem_of_getElem? (i := 609) (by decide +kernel)⟩
theorem lw_p23 : lw_okq (⟨"GraphPages$FormReader", "readEnd", "()Z"⟩, 5) := ⟨⟨by decide +kernel, by decide +kernel⟩, List.mem_of_getElem? (i := 210) (by decide +kernel), List.mem_of_getElem? (i := 619) (by decide +kernel), List.mem_of_getElem? (i := 620) (by decide +kernel)⟩
theorem lw_p24 : lw_okq (⟨"GraphPages$FormReader", "readCode", "()Z"⟩, 5) := ⟨⟨by decide +kernel, by decide +kernel⟩, List.mem_of_getElem? (i := 210) (by decide +kernel), List.mem_of_getElem? (i := 623) (by decide +kernel), List.mem_of_getElem? (i := 624) (by decide +kernel)⟩
theorem lw_p25 : lw_okq (⟨"GraphPages$FormReader", "readEntity", "()Z"⟩, 5) := ⟨⟨by decide +kernel, by decide +kernel⟩, List.mem_of_getElem? (i := 210) (by decide +kernel), List.mem_of_getElem? (i := 635) (by decide +kernel), List.mem_of_getElem? (i := 636) (by decide +kernel)⟩
theorem lw_p26 : lw_okq (⟨"GraphPages$FormReader", "readEntityOf", "(Ljava/lang/String;C)Z"⟩, 5) := ⟨⟨by decide +kernel, by decide +kernel⟩, List.mem_of_getElem? (i := 210) (by decide +kernel), List.mem_of_getElem? (i := 640) (by decide +kernel), List.mem_of_getElem? (i := 641) (by decide +kernel)⟩
theorem lw_p27 : lw_okq (⟨"GraphPages$GraphReader", "isOne", "(II)Z"⟩, 8) := ⟨⟨by decide +kernel, by decide +kernel⟩, List.mem_of_getElem? (i := 232) (by decide +kernel), List.mem_of_getElem? (i := 659) (by decide +kernel), List.mem_of_getElem? (i := 660) (by decide +kernel)⟩
theorem lw_p28 : lw_okq (⟨"GraphPages$GraphReader", "countIn", "(II)I"⟩, 8) := ⟨⟨by decide +kernel, by decide +kernel⟩, List.mem_of_getElem? (i := 232) (by decide +kernel), List.mem_of_getElem? (i := 669) (by decide +kernel), List.mem_of_getElem? (i := 670) (by decide +kernel)⟩
theorem lw_p29 : lw_okq (⟨"GraphPages$GraphReader", "countOf", "(I)I"⟩, 8) := ⟨⟨by decide +kernel, by decide +kernel⟩, List.mem_of_getElem? (i := 232) (by decide +kernel), List.mem_of_getElem? (i := 673) (by decide +kernel), List.mem_of_getElem? (i := 674) (by decide +kernel)⟩
theorem lw_p30 : lw_okq (⟨"GraphPages$GraphReader", "findBody", "()I"⟩, 8) := ⟨⟨by decide +kernel, by decide +kernel⟩, List.mem_of_getElem? (i := 232) (by decide +kernel), List.mem_of_getElem? (i := 685) (by decide +kernel), List.mem_of_getElem? (i := 686) (by decide +kernel)⟩
theorem lw_p31 : lw_okq (⟨"GraphPages$GraphReader", "isSoundBody", "(I)Z"⟩, 8) := ⟨⟨by decide +kernel, by decide +kernel⟩, List.mem_of_getElem? (i := 232) (by decide +kernel), List.mem_of_getElem? (i := 689) (by decide +kernel), List.mem_of_getElem? (i := 690) (by decide +kernel)⟩
def lw_privs_2 : List (MethodName × Nat) := [(⟨"GraphPages$Writer", "behindLastWrittenSlot", "(I)I"⟩, 6), (⟨"GraphPages$FormReader", "readPiece", "()Z"⟩, 5), (⟨"GraphPages$FormReader", "readStart", "()Z"⟩, 5), (⟨"GraphPages$FormReader", "readName", "()I"⟩, 5), (⟨"GraphPages$FormReader", "skipSpaces", "()Z"⟩, 5), (⟨"GraphPages$FormReader", "readAttribute", "(I)Z"⟩, 5), (⟨"GraphPages$FormReader", "skip", "(C)Z"⟩, 5), (⟨"GraphPages$FormReader", "readEnd", "()Z"⟩, 5), (⟨"GraphPages$FormReader", "readCode", "()Z"⟩, 5), (⟨"GraphPages$FormReader", "readEntity", "()Z"⟩, 5), (⟨"GraphPages$FormReader", "readEntityOf", "(Ljava/lang/String;C)Z"⟩, 5), (⟨"GraphPages$GraphReader", "isOne", "(II)Z"⟩, 8), (⟨"GraphPages$GraphReader", "countIn", "(II)I"⟩, 8), (⟨"GraphPages$GraphReader", "countOf", "(I)I"⟩, 8), (⟨"GraphPages$GraphReader", "findBody", "()I"⟩, 8), (⟨"GraphPages$GraphReader", "isSoundBody", "(I)Z"⟩, 8)]
theorem lw_r2 : ∀ q ∈ lw_privs_2, lw_okq q := List.forall_mem_cons.mpr ⟨lw_p16, List.forall_mem_cons.mpr ⟨lw_p17, List.forall_mem_cons.mpr ⟨lw_p18, List.forall_mem_cons.mpr ⟨lw_p19, List.forall_mem_cons.mpr ⟨lw_p20, List.forall_mem_cons.mpr ⟨lw_p21, List.forall_mem_cons.mpr ⟨lw_p22, List.forall_mem_cons.mpr ⟨lw_p23, List.forall_mem_cons.mpr ⟨lw_p24, List.forall_mem_cons.mpr ⟨lw_p25, List.forall_mem_cons.mpr ⟨lw_p26, List.forall_mem_cons.mpr ⟨lw_p27, List.forall_mem_cons.mpr ⟨lw_p28, List.forall_mem_cons.mpr ⟨lw_p29, List.forall_mem_cons.mpr ⟨lw_p30, List.forall_mem_cons.mpr ⟨lw_p31, fun _ h => absurd h List.not_mem_nil⟩⟩⟩⟩⟩⟩⟩⟩⟩⟩⟩⟩⟩⟩⟩⟩
theorem lw_p32 : lw_okq (⟨"GraphPages$GraphReader", "isSound", "(I)Z"⟩, 8) := ⟨⟨by decide +kernel, by decide +kernel⟩, List.mem_of_getElem? (i := 232) (by decide +kernel), List.mem_of_getElem? (i := 694) (by decide +kernel), List.mem_of_getElem? (i := 695) (by decide +kernel)⟩
theorem lw_p33 : lw_okq (⟨"GraphPages$GraphReader", "hasSoundAttributes", "(I)Z"⟩, 8) := ⟨⟨by decide +kernel, by decide +kernel⟩, List.mem_of_getElem? (i := 232) (by decide +kernel), List.mem_of_getElem? (i := 698) (by decide +kernel), List.mem_of_getElem? (i := 699) (by decide +kernel)⟩
theorem lw_p34 : lw_okq (⟨"GraphPages$GraphReader", "mayBear", "(II)Z"⟩, 8) := ⟨⟨by decide +kernel, by decide +kernel⟩, List.mem_of_getElem? (i := 232) (by decide +kernel), List.mem_of_getElem? (i := 702) (by decide +kernel), List.mem_of_getElem? (i := 703) (by decide +kernel)⟩
theorem lw_p35 : lw_okq (⟨"GraphPages$GraphReader", "isObject", "(I)Z"⟩, 8) := ⟨⟨by decide +kernel, by decide +kernel⟩, List.mem_of_getElem? (i := 232) (by decide +kernel), List.mem_of_getElem? (i := 706) (by decide +kernel), List.mem_of_getElem? (i := 707) (by decide +kernel)⟩
theorem lw_p36 : lw_okq (⟨"GraphPages$GraphReader", "hasSoundSize", "(I)Z"⟩, 8) := ⟨⟨by decide +kernel, by decide +kernel⟩, List.mem_of_getElem? (i := 232) (by decide +kernel), List.mem_of_getElem? (i := 710) (by decide +kernel), List.mem_of_getElem? (i := 711) (by decide +kernel)⟩
theorem lw_p37 : lw_okq (⟨"GraphPages$GraphReader", "numberIn", "(I)J"⟩, 8) := ⟨⟨by decide +kernel, by decide +kernel⟩, List.mem_of_getElem? (i := 232) (by decide +kernel), List.mem_of_getElem? (i := 718) (by decide +kernel), List.mem_of_getElem? (i := 719) (by decide +kernel)⟩
theorem lw_p38 : lw_okq (⟨"GraphPages$GraphReader", "numberObject", "(I)Z"⟩, 8) := ⟨⟨by decide +kernel, by decide +kernel⟩, List.mem_of_getElem? (i := 232) (by decide +kernel), List.mem_of_getElem? (i := 725) (by decide +kernel), List.mem_of_getElem? (i := 726) (by decide +kernel)⟩
theorem lw_p39 : lw_okq (⟨"GraphPages$GraphReader", "layObject", "(II)V"⟩, 8) := ⟨⟨by decide +kernel, by decide +kernel⟩, List.mem_of_getElem? (i := 232) (by decide +kernel), List.mem_of_getElem? (i := 729) (by decide +kernel), List.mem_of_getElem? (i := 730) (by decide +kernel)⟩
theorem lw_p40 : lw_okq (⟨"GraphPages$GraphReader", "keepId", "(I)Z"⟩, 8) := ⟨⟨by decide +kernel, by decide +kernel⟩, List.mem_of_getElem? (i := 232) (by decide +kernel), List.mem_of_getElem? (i := 738) (by decide +kernel), List.mem_of_getElem? (i := 739) (by decide +kernel)⟩
theorem lw_p41 : lw_okq (⟨"GraphPages$GraphReader", "mayStandInBody", "(II)Z"⟩, 8) := ⟨⟨by decide +kernel, by decide +kernel⟩, List.mem_of_getElem? (i := 232) (by decide +kernel), List.mem_of_getElem? (i := 742) (by decide +kernel), List.mem_of_getElem? (i := 743) (by decide +kernel)⟩
theorem lw_p42 : lw_okq (⟨"GraphPages$GraphReader", "referredBy", "(I)I"⟩, 8) := ⟨⟨by decide +kernel, by decide +kernel⟩, List.mem_of_getElem? (i := 232) (by decide +kernel), List.mem_of_getElem? (i := 746) (by decide +kernel), List.mem_of_getElem? (i := 747) (by decide +kernel)⟩
theorem lw_p43 : lw_okq (⟨"GraphPages$GraphReader", "fillSlot", "(I)Z"⟩, 8) := ⟨⟨by decide +kernel, by decide +kernel⟩, List.mem_of_getElem? (i := 232) (by decide +kernel), List.mem_of_getElem? (i := 750) (by decide +kernel), List.mem_of_getElem? (i := 751) (by decide +kernel)⟩
theorem lw_p44 : lw_okq (⟨"GraphPages$GraphReader", "holdElement", "(III)Z"⟩, 8) := ⟨⟨by decide +kernel, by decide +kernel⟩, List.mem_of_getElem? (i := 232) (by decide +kernel), List.mem_of_getElem? (i := 754) (by decide +kernel), List.mem_of_getElem? (i := 755) (by decide +kernel)⟩
theorem lw_p45 : lw_okq (⟨"GraphPagesModel", "object", "(I)Z"⟩, 35) := ⟨⟨by decide +kernel, by decide +kernel⟩, List.mem_of_getElem? (i := 789) (by decide +kernel), List.mem_of_getElem? (i := 909) (by decide +kernel), List.mem_of_getElem? (i := 910) (by decide +kernel)⟩
theorem lw_p46 : lw_okq (⟨"GraphPagesModel", "slotThere", "(II)Z"⟩, 35) := ⟨⟨by decide +kernel, by decide +kernel⟩, List.mem_of_getElem? (i := 789) (by decide +kernel), List.mem_of_getElem? (i := 917) (by decide +kernel), List.mem_of_getElem? (i := 918) (by decide +kernel)⟩
theorem lw_p47 : lw_okq (⟨"GraphPagesModel", "sameOutside", "(II)Z"⟩, 35) := ⟨⟨by decide +kernel, by decide +kernel⟩, List.mem_of_getElem? (i := 789) (by decide +kernel), List.mem_of_getElem? (i := 953) (by decide +kernel), List.mem_of_getElem? (i := 954) (by decide +kernel)⟩
def lw_privs_3 : List (MethodName × Nat) := [(⟨"GraphPages$GraphReader", "isSound", "(I)Z"⟩, 8), (⟨"GraphPages$GraphReader", "hasSoundAttributes", "(I)Z"⟩, 8), (⟨"GraphPages$GraphReader", "mayBear", "(II)Z"⟩, 8), (⟨"GraphPages$GraphReader", "isObject", "(I)Z"⟩, 8), (⟨"GraphPages$GraphReader", "hasSoundSize", "(I)Z"⟩, 8), (⟨"GraphPages$GraphReader", "numberIn", "(I)J"⟩, 8), (⟨"GraphPages$GraphReader", "numberObject", "(I)Z"⟩, 8), (⟨"GraphPages$GraphReader", "layObject", "(II)V"⟩, 8), (⟨"GraphPages$GraphReader", "keepId", "(I)Z"⟩, 8), (⟨"GraphPages$GraphReader", "mayStandInBody", "(II)Z"⟩, 8), (⟨"GraphPages$GraphReader", "referredBy", "(I)I"⟩, 8), (⟨"GraphPages$GraphReader", "fillSlot", "(I)Z"⟩, 8), (⟨"GraphPages$GraphReader", "holdElement", "(III)Z"⟩, 8), (⟨"GraphPagesModel", "object", "(I)Z"⟩, 35), (⟨"GraphPagesModel", "slotThere", "(II)Z"⟩, 35), (⟨"GraphPagesModel", "sameOutside", "(II)Z"⟩, 35)]
theorem lw_r3 : ∀ q ∈ lw_privs_3, lw_okq q := List.forall_mem_cons.mpr ⟨lw_p32, List.forall_mem_cons.mpr ⟨lw_p33, List.forall_mem_cons.mpr ⟨lw_p34, List.forall_mem_cons.mpr ⟨lw_p35, List.forall_mem_cons.mpr ⟨lw_p36, List.forall_mem_cons.mpr ⟨lw_p37, List.forall_mem_cons.mpr ⟨lw_p38, List.forall_mem_cons.mpr ⟨lw_p39, List.forall_mem_cons.mpr ⟨lw_p40, List.forall_mem_cons.mpr ⟨lw_p41, List.forall_mem_cons.mpr ⟨lw_p42, List.forall_mem_cons.mpr ⟨lw_p43, List.forall_mem_cons.mpr ⟨lw_p44, List.forall_mem_cons.mpr ⟨lw_p45, List.forall_mem_cons.mpr ⟨lw_p46, List.forall_mem_cons.mpr ⟨lw_p47, fun _ h => absurd h List.not_mem_nil⟩⟩⟩⟩⟩⟩⟩⟩⟩⟩⟩⟩⟩⟩⟩⟩
theorem lw_p48 : lw_okq (⟨"GraphPagesModel", "mark", "(I)V"⟩, 35) := ⟨⟨by decide +kernel, by decide +kernel⟩, List.mem_of_getElem? (i := 789) (by decide +kernel), List.mem_of_getElem? (i := 961) (by decide +kernel), List.mem_of_getElem? (i := 962) (by decide +kernel)⟩
theorem lw_p49 : lw_okq (⟨"GraphPagesModel", "out", "(IIII)V"⟩, 35) := ⟨⟨by decide +kernel, by decide +kernel⟩, List.mem_of_getElem? (i := 789) (by decide +kernel), List.mem_of_getElem? (i := 970) (by decide +kernel), List.mem_of_getElem? (i := 971) (by decide +kernel)⟩
theorem lw_p50 : lw_okq (⟨"GraphPagesModel", "reference", "(I)V"⟩, 35) := ⟨⟨by decide +kernel, by decide +kernel⟩, List.mem_of_getElem? (i := 789) (by decide +kernel), List.mem_of_getElem? (i := 974) (by decide +kernel), List.mem_of_getElem? (i := 975) (by decide +kernel)⟩
theorem lw_p51 : lw_okq (⟨"GraphPagesModel", "element", "(I)V"⟩, 35) := ⟨⟨by decide +kernel, by decide +kernel⟩, List.mem_of_getElem? (i := 789) (by decide +kernel), List.mem_of_getElem? (i := 978) (by decide +kernel), List.mem_of_getElem? (i := 979) (by decide +kernel)⟩
theorem lw_p52 : lw_okq (⟨"GraphPagesModel", "attribute", "(III)V"⟩, 35) := ⟨⟨by decide +kernel, by decide +kernel⟩, List.mem_of_getElem? (i := 789) (by decide +kernel), List.mem_of_getElem? (i := 982) (by decide +kernel), List.mem_of_getElem? (i := 983) (by decide +kernel)⟩
theorem lw_p53 : lw_okq (⟨"GraphPagesModel", "number", "(J)V"⟩, 35) := ⟨⟨by decide +kernel, by decide +kernel⟩, List.mem_of_getElem? (i := 789) (by decide +kernel), List.mem_of_getElem? (i := 986) (by decide +kernel), List.mem_of_getElem? (i := 987) (by decide +kernel)⟩
theorem lw_p54 : lw_okq (⟨"GraphPagesModel", "character", "(I)V"⟩, 35) := ⟨⟨by decide +kernel, by decide +kernel⟩, List.mem_of_getElem? (i := 789) (by decide +kernel), List.mem_of_getElem? (i := 992) (by decide +kernel), List.mem_of_getElem? (i := 993) (by decide +kernel)⟩
theorem lw_p55 : lw_okq (⟨"GraphPagesModel", "work", "()V"⟩, 35) := ⟨⟨by decide +kernel, by decide +kernel⟩, List.mem_of_getElem? (i := 789) (by decide +kernel), List.mem_of_getElem? (i := 996) (by decide +kernel), List.mem_of_getElem? (i := 997) (by decide +kernel)⟩
theorem lw_p56 : lw_okq (⟨"GraphPagesModel", "wellFormed", "()Z"⟩, 35) := ⟨⟨by decide +kernel, by decide +kernel⟩, List.mem_of_getElem? (i := 789) (by decide +kernel), List.mem_of_getElem? (i := 1028) (by decide +kernel), List.mem_of_getElem? (i := 1029) (by decide +kernel)⟩
theorem lw_p57 : lw_okq (⟨"GraphPagesModel", "charOr0", "(I)I"⟩, 35) := ⟨⟨by decide +kernel, by decide +kernel⟩, List.mem_of_getElem? (i := 789) (by decide +kernel), List.mem_of_getElem? (i := 1032) (by decide +kernel), List.mem_of_getElem? (i := 1033) (by decide +kernel)⟩
theorem lw_p58 : lw_okq (⟨"GraphPagesModel", "end", "()Z"⟩, 35) := ⟨⟨by decide +kernel, by decide +kernel⟩, List.mem_of_getElem? (i := 789) (by decide +kernel), List.mem_of_getElem? (i := 1036) (by decide +kernel), List.mem_of_getElem? (i := 1037) (by decide +kernel)⟩
theorem lw_p59 : lw_okq (⟨"GraphPagesModel", "nameAt", "(I)I"⟩, 35) := ⟨⟨by decide +kernel, by decide +kernel⟩, List.mem_of_getElem? (i := 789) (by decide +kernel), List.mem_of_getElem? (i := 1040) (by decide +kernel), List.mem_of_getElem? (i := 1041) (by decide +kernel)⟩
theorem lw_p60 : lw_okq (⟨"GraphPagesModel", "start", "()Z"⟩, 35) := ⟨⟨by decide +kernel, by decide +kernel⟩, List.mem_of_getElem? (i := 789) (by decide +kernel), List.mem_of_getElem? (i := 1044) (by decide +kernel), List.mem_of_getElem? (i := 1045) (by decide +kernel)⟩
theorem lw_p61 : lw_okq (⟨"GraphPagesModel", "attributeAt", "(II)I"⟩, 35) := ⟨⟨by decide +kernel, by decide +kernel⟩, List.mem_of_getElem? (i := 789) (by decide +kernel), List.mem_of_getElem? (i := 1048) (by decide +kernel), List.mem_of_getElem? (i := 1049) (by decide +kernel)⟩
theorem lw_p62 : lw_okq (⟨"GraphPagesModel", "attr", "(II)I"⟩, 35) := ⟨⟨by decide +kernel, by decide +kernel⟩, List.mem_of_getElem? (i := 789) (by decide +kernel), List.mem_of_getElem? (i := 1052) (by decide +kernel), List.mem_of_getElem? (i := 1053) (by decide +kernel)⟩
theorem lw_p63 : lw_okq (⟨"GraphPagesModel", "content", "()Z"⟩, 35) := ⟨⟨by decide +kernel, by decide +kernel⟩, List.mem_of_getElem? (i := 789) (by decide +kernel), List.mem_of_getElem? (i := 1056) (by decide +kernel), List.mem_of_getElem? (i := 1057) (by decide +kernel)⟩
def lw_privs_4 : List (MethodName × Nat) := [(⟨"GraphPagesModel", "mark", "(I)V"⟩, 35), (⟨"GraphPagesModel", "out", "(IIII)V"⟩, 35), (⟨"GraphPagesModel", "reference", "(I)V"⟩, 35), (⟨"GraphPagesModel", "element", "(I)V"⟩, 35), (⟨"GraphPagesModel", "attribute", "(III)V"⟩, 35), (⟨"GraphPagesModel", "number", "(J)V"⟩, 35), (⟨"GraphPagesModel", "character", "(I)V"⟩, 35), (⟨"GraphPagesModel", "work", "()V"⟩, 35), (⟨"GraphPagesModel", "wellFormed", "()Z"⟩, 35), (⟨"GraphPagesModel", "charOr0", "(I)I"⟩, 35), (⟨"GraphPagesModel", "end", "()Z"⟩, 35), (⟨"GraphPagesModel", "nameAt", "(I)I"⟩, 35), (⟨"GraphPagesModel", "start", "()Z"⟩, 35), (⟨"GraphPagesModel", "attributeAt", "(II)I"⟩, 35), (⟨"GraphPagesModel", "attr", "(II)I"⟩, 35), (⟨"GraphPagesModel", "content", "()Z"⟩, 35)]
theorem lw_r4 : ∀ q ∈ lw_privs_4, lw_okq q := List.forall_mem_cons.mpr ⟨lw_p48, List.forall_mem_cons.mpr ⟨lw_p49, List.forall_mem_cons.mpr ⟨lw_p50, List.forall_mem_cons.mpr ⟨lw_p51, List.forall_mem_cons.mpr ⟨lw_p52, List.forall_mem_cons.mpr ⟨lw_p53, List.forall_mem_cons.mpr ⟨lw_p54, List.forall_mem_cons.mpr ⟨lw_p55, List.forall_mem_cons.mpr ⟨lw_p56, List.forall_mem_cons.mpr ⟨lw_p57, List.forall_mem_cons.mpr ⟨lw_p58, List.forall_mem_cons.mpr ⟨lw_p59, List.forall_mem_cons.mpr ⟨lw_p60, List.forall_mem_cons.mpr ⟨lw_p61, List.forall_mem_cons.mpr ⟨lw_p62, List.forall_mem_cons.mpr ⟨lw_p63, fun _ h => absurd h List.not_mem_nil⟩⟩⟩⟩⟩⟩⟩⟩⟩⟩⟩⟩⟩⟩⟩⟩
theorem lw_p64 : lw_okq (⟨"GraphPagesModel", "isOne", "(II)Z"⟩, 35) := ⟨⟨by decide +kernel, by decide +kernel⟩, List.mem_of_getElem? (i := 789) (by decide +kernel), List.mem_of_getElem? (i := 1060) (by decide +kernel), List.mem_of_getElem? (i := 1061) (by decide +kernel)⟩
theorem lw_p65 : lw_okq (⟨"GraphPagesModel", "must", "()Z"⟩, 35) := ⟨⟨by decide +kernel, by decide +kernel⟩, List.mem_of_getElem? (i := 789) (by decide +kernel), List.mem_of_getElem? (i := 1064) (by decide +kernel), List.mem_of_getElem? (i := 1065) (by decide +kernel)⟩
theorem lw_p66 : lw_okq (⟨"GraphPagesModel", "countIn", "(II)I"⟩, 35) := ⟨⟨by decide +kernel, by decide +kernel⟩, List.mem_of_getElem? (i := 789) (by decide +kernel), List.mem_of_getElem? (i := 1068) (by decide +kernel), List.mem_of_getElem? (i := 1069) (by decide +kernel)⟩
theorem lw_p67 : lw_okq (⟨"GraphPagesModel", "countOf", "(I)I"⟩, 35) := ⟨⟨by decide +kernel, by decide +kernel⟩, List.mem_of_getElem? (i := 789) (by decide +kernel), List.mem_of_getElem? (i := 1072) (by decide +kernel), List.mem_of_getElem? (i := 1073) (by decide +kernel)⟩
theorem lw_p68 : lw_okq (⟨"GraphPagesModel", "body", "()I"⟩, 35) := ⟨⟨by decide +kernel, by decide +kernel⟩, List.mem_of_getElem? (i := 789) (by decide +kernel), List.mem_of_getElem? (i := 1076) (by decide +kernel), List.mem_of_getElem? (i := 1077) (by decide +kernel)⟩
theorem lw_p69 : lw_okq (⟨"GraphPagesModel", "isObject", "(I)Z"⟩, 35) := ⟨⟨by decide +kernel, by decide +kernel⟩, List.mem_of_getElem? (i := 789) (by decide +kernel), List.mem_of_getElem? (i := 1080) (by decide +kernel), List.mem_of_getElem? (i := 1081) (by decide +kernel)⟩
theorem lw_p70 : lw_okq (⟨"GraphPagesModel", "lawful", "(I)Z"⟩, 35) := ⟨⟨by decide +kernel, by decide +kernel⟩, List.mem_of_getElem? (i := 789) (by decide +kernel), List.mem_of_getElem? (i := 1084) (by decide +kernel), List.mem_of_getElem? (i := 1085) (by decide +kernel)⟩
theorem lw_p71 : lw_okq (⟨"GraphPagesModel", "fits", "(II)Z"⟩, 35) := ⟨⟨by decide +kernel, by decide +kernel⟩, List.mem_of_getElem? (i := 789) (by decide +kernel), List.mem_of_getElem? (i := 1088) (by decide +kernel), List.mem_of_getElem? (i := 1089) (by decide +kernel)⟩
theorem lw_p72 : lw_okq (⟨"GraphPagesModel", "mayStand", "(II)Z"⟩, 35) := ⟨⟨by decide +kernel, by decide +kernel⟩, List.mem_of_getElem? (i := 789) (by decide +kernel), List.mem_of_getElem? (i := 1092) (by decide +kernel), List.mem_of_getElem? (i := 1093) (by decide +kernel)⟩
theorem lw_p73 : lw_okq (⟨"GraphPagesModel", "numberOf", "(I)J"⟩, 35) := ⟨⟨by decide +kernel, by decide +kernel⟩, List.mem_of_getElem? (i := 789) (by decide +kernel), List.mem_of_getElem? (i := 1096) (by decide +kernel), List.mem_of_getElem? (i := 1097) (by decide +kernel)⟩
theorem lw_p74 : lw_okq (⟨"GraphPagesModel", "slots", "(I)Z"⟩, 35) := ⟨⟨by decide +kernel, by decide +kernel⟩, List.mem_of_getElem? (i := 789) (by decide +kernel), List.mem_of_getElem? (i := 1103) (by decide +kernel), List.mem_of_getElem? (i := 1104) (by decide +kernel)⟩
theorem lw_p75 : lw_okq (⟨"GraphPagesModel", "withId", "(III)I"⟩, 35) := ⟨⟨by decide +kernel, by decide +kernel⟩, List.mem_of_getElem? (i := 789) (by decide +kernel), List.mem_of_getElem? (i := 1107) (by decide +kernel), List.mem_of_getElem? (i := 1108) (by decide +kernel)⟩
theorem lw_p76 : lw_okq (⟨"GraphPagesModel", "target", "(II)I"⟩, 35) := ⟨⟨by decide +kernel, by decide +kernel⟩, List.mem_of_getElem? (i := 789) (by decide +kernel), List.mem_of_getElem? (i := 1114) (by decide +kernel), List.mem_of_getElem? (i := 1115) (by decide +kernel)⟩
def lw_privs_5 : List (MethodName × Nat) := [(⟨"GraphPagesModel", "isOne", "(II)Z"⟩, 35), (⟨"GraphPagesModel", "must", "()Z"⟩, 35), (⟨"GraphPagesModel", "countIn", "(II)I"⟩, 35), (⟨"GraphPagesModel", "countOf", "(I)I"⟩, 35), (⟨"GraphPagesModel", "body", "()I"⟩, 35), (⟨"GraphPagesModel", "isObject", "(I)Z"⟩, 35), (⟨"GraphPagesModel", "lawful", "(I)Z"⟩, 35), (⟨"GraphPagesModel", "fits", "(II)Z"⟩, 35), (⟨"GraphPagesModel", "mayStand", "(II)Z"⟩, 35), (⟨"GraphPagesModel", "numberOf", "(I)J"⟩, 35), (⟨"GraphPagesModel", "slots", "(I)Z"⟩, 35), (⟨"GraphPagesModel", "withId", "(III)I"⟩, 35), (⟨"GraphPagesModel", "target", "(II)I"⟩, 35)]
theorem lw_r5 : ∀ q ∈ lw_privs_5, lw_okq q := List.forall_mem_cons.mpr ⟨lw_p64, List.forall_mem_cons.mpr ⟨lw_p65, List.forall_mem_cons.mpr ⟨lw_p66, List.forall_mem_cons.mpr ⟨lw_p67, List.forall_mem_cons.mpr ⟨lw_p68, List.forall_mem_cons.mpr ⟨lw_p69, List.forall_mem_cons.mpr ⟨lw_p70, List.forall_mem_cons.mpr ⟨lw_p71, List.forall_mem_cons.mpr ⟨lw_p72, List.forall_mem_cons.mpr ⟨lw_p73, List.forall_mem_cons.mpr ⟨lw_p74, List.forall_mem_cons.mpr ⟨lw_p75, List.forall_mem_cons.mpr ⟨lw_p76, fun _ h => absurd h List.not_mem_nil⟩⟩⟩⟩⟩⟩⟩⟩⟩⟩⟩⟩⟩
def lw_privs : List (MethodName × Nat) := lw_privs_1 ++ (lw_privs_2 ++ (lw_privs_3 ++ (lw_privs_4 ++ (lw_privs_5))))
def lw_tbl : List Cond := k2_sels lw_privs ++ tables_1
theorem lw_privs_ok : ∀ q ∈ lw_privs, lw_okq q := by
  show ∀ q ∈ lw_privs_1 ++ (lw_privs_2 ++ (lw_privs_3 ++ (lw_privs_4 ++ (lw_privs_5)))), lw_okq q
  exact List.forall_mem_append.mpr ⟨lw_r1, List.forall_mem_append.mpr ⟨lw_r2, List.forall_mem_append.mpr ⟨lw_r3, List.forall_mem_append.mpr ⟨lw_r4, lw_r5⟩⟩⟩⟩
end
section
def gTb : List Cond := lw_tbl.filter goodWord
theorem gm1 {w : Cond} (h : w ∈ tables_1_1) (hg : goodWord w = true) : w ∈ gTb := List.mem_filter.mpr ⟨List.mem_append_right _ (show w ∈ tables_1 from List.mem_append_left _ h), hg⟩
theorem gm2 {w : Cond} (h : w ∈ tables_1_2) (hg : goodWord w = true) : w ∈ gTb := List.mem_filter.mpr ⟨List.mem_append_right _ (show w ∈ tables_1 from List.mem_append_right _ (List.mem_append_left _ h)), hg⟩
theorem gm3 {w : Cond} (h : w ∈ tables_1_3) (hg : goodWord w = true) : w ∈ gTb := List.mem_filter.mpr ⟨List.mem_append_right _ (show w ∈ tables_1 from List.mem_append_right _ (List.mem_append_right _ (List.mem_append_left _ h))), hg⟩
theorem gm4 {w : Cond} (h : w ∈ tables_1_4) (hg : goodWord w = true) : w ∈ gTb := List.mem_filter.mpr ⟨List.mem_append_right _ (show w ∈ tables_1 from List.mem_append_right _ (List.mem_append_right _ (List.mem_append_right _ (List.mem_append_left _ h)))), hg⟩
theorem gm5 {w : Cond} (h : w ∈ tables_1_5) (hg : goodWord w = true) : w ∈ gTb := List.mem_filter.mpr ⟨List.mem_append_right _ (show w ∈ tables_1 from List.mem_append_right _ (List.mem_append_right _ (List.mem_append_right _ (List.mem_append_right _ (h))))), hg⟩
theorem gmS {w : Cond} (h : w ∈ k2_sels lw_privs) (hg : goodWord w = true) : w ∈ gTb := List.mem_filter.mpr ⟨List.mem_append_left _ h, hg⟩
def R_E : String := "GraphPages$Elements"
def T_E : u_T := fun k => match k with
  | 0 => ("GraphPages$Elements", "count", "I", false)
  | 1 => ("GraphPages$Elements", "names", "[I", true)
  | 2 => ("GraphPages$Elements", "parents", "[I", true)
  | 3 => ("GraphPages$Elements", "children", "[I", true)
  | 4 => ("GraphPages$Elements", "attributeStarts", "[I", true)
  | 5 => ("GraphPages$Elements", "attributeCounts", "[I", true)
  | 6 => ("GraphPages$Elements", "textStarts", "[I", true)
  | 7 => ("GraphPages$Elements", "textCounts", "[I", true)
  | 8 => ("GraphPages$Elements", "attributeCount", "I", false)
  | 9 => ("GraphPages$Elements", "attributeNames", "[I", true)
  | 10 => ("GraphPages$Elements", "valueStarts", "[I", true)
  | 11 => ("GraphPages$Elements", "valueCounts", "[I", true)
  | 12 => ("GraphPages$Elements", "textCount", "I", false)
  | _ => ("GraphPages$Elements", "text", "[C", true)
def t_E : Nat → FieldType := fun k => match k with
  | 0 => .int
  | 1 => .array .int
  | 2 => .array .int
  | 3 => .array .int
  | 4 => .array .int
  | 5 => .array .int
  | 6 => .array .int
  | 7 => .array .int
  | 8 => .int
  | 9 => .array .int
  | 10 => .array .int
  | 11 => .array .int
  | 12 => .int
  | _ => .array .char
theorem n_E : ∀ a, a < 14 → ∀ b, b < 14 → a ≠ b → (T_E a).2.1 ≠ (T_E b).2.1 := by decide +kernel
theorem t_E_ok : ∀ k, k < 14 → parseFieldDescriptor (T_E k).2.2.1 = some (t_E k) := by decide +kernel
theorem tu_E : ∀ w ∈ u_ws R_E T_E 14, w ∈ gTb := by decide +kernel
def R_F : String := "GraphPages$FormReader"
def T_F : u_T := fun k => match k with
  | 0 => ("GraphPages$FormReader", "page", "LGraphPages$Page;", true)
  | 1 => ("GraphPages$FormReader", "elements", "LGraphPages$Elements;", true)
  | 2 => ("GraphPages$FormReader", "place", "I", false)
  | 3 => ("GraphPages$FormReader", "open", "I", false)
  | _ => ("GraphPages$FormReader", "depth", "I", false)
def t_F : Nat → FieldType := fun k => match k with
  | 0 => .object "GraphPages$Page"
  | 1 => .object "GraphPages$Elements"
  | 2 => .int
  | 3 => .int
  | _ => .int
theorem n_F : ∀ a, a < 5 → ∀ b, b < 5 → a ≠ b → (T_F a).2.1 ≠ (T_F b).2.1 := by decide +kernel
theorem t_F_ok : ∀ k, k < 5 → parseFieldDescriptor (T_F k).2.2.1 = some (t_F k) := by decide +kernel
theorem tu_F : ∀ w ∈ u_ws R_F T_F 5, w ∈ gTb := by decide +kernel
def R_G : String := "GraphPages$Graph"
def T_G : u_T := fun k => match k with
  | 0 => ("GraphPages$Graph", "count", "I", false)
  | 1 => ("GraphPages$Graph", "kinds", "[I", true)
  | 2 => ("GraphPages$Graph", "sizes", "[I", true)
  | 3 => ("GraphPages$Graph", "contents", "[I", true)
  | 4 => ("GraphPages$Graph", "values", "[I", true)
  | _ => ("GraphPages$Graph", "characters", "[C", true)
def t_G : Nat → FieldType := fun k => match k with
  | 0 => .int
  | 1 => .array .int
  | 2 => .array .int
  | 3 => .array .int
  | 4 => .array .int
  | _ => .array .char
theorem n_G : ∀ a, a < 6 → ∀ b, b < 6 → a ≠ b → (T_G a).2.1 ≠ (T_G b).2.1 := by decide +kernel
theorem t_G_ok : ∀ k, k < 6 → parseFieldDescriptor (T_G k).2.2.1 = some (t_G k) := by decide +kernel
theorem tu_G : ∀ w ∈ u_ws R_G T_G 6, w ∈ gTb := by decide +kernel
def R_H : String := "GraphPages$GraphReader"
def T_H : u_T := fun k => match k with
  | 0 => ("GraphPages$GraphReader", "page", "LGraphPages$Page;", true)
  | 1 => ("GraphPages$GraphReader", "elements", "LGraphPages$Elements;", true)
  | 2 => ("GraphPages$GraphReader", "graph", "LGraphPages$Graph;", true)
  | 3 => ("GraphPages$GraphReader", "objectsOfElements", "[I", true)
  | 4 => ("GraphPages$GraphReader", "objectsOfIds", "[I", true)
  | 5 => ("GraphPages$GraphReader", "nextSlots", "[I", true)
  | 6 => ("GraphPages$GraphReader", "takenSlots", "[I", true)
  | _ => ("GraphPages$GraphReader", "count", "I", false)
def t_H : Nat → FieldType := fun k => match k with
  | 0 => .object "GraphPages$Page"
  | 1 => .object "GraphPages$Elements"
  | 2 => .object "GraphPages$Graph"
  | 3 => .array .int
  | 4 => .array .int
  | 5 => .array .int
  | 6 => .array .int
  | _ => .int
theorem n_H : ∀ a, a < 8 → ∀ b, b < 8 → a ≠ b → (T_H a).2.1 ≠ (T_H b).2.1 := by decide +kernel
theorem t_H_ok : ∀ k, k < 8 → parseFieldDescriptor (T_H k).2.2.1 = some (t_H k) := by decide +kernel
theorem tu_H : ∀ w ∈ u_ws R_H T_H 8, w ∈ gTb := by decide +kernel
def R_A : String := "GraphPages$Matching"
def T_A : u_T := fun k => match k with
  | 0 => ("GraphPages$Matching", "graph", "LGraphPages$Graph;", true)
  | 1 => ("GraphPages$Matching", "partners", "[I", true)
  | 2 => ("GraphPages$Matching", "partnersBack", "[I", true)
  | 3 => ("GraphPages$Matching", "order", "[I", true)
  | _ => ("GraphPages$Matching", "count", "I", false)
def t_A : Nat → FieldType := fun k => match k with
  | 0 => .object "GraphPages$Graph"
  | 1 => .array .int
  | 2 => .array .int
  | 3 => .array .int
  | _ => .int
theorem n_A : ∀ a, a < 5 → ∀ b, b < 5 → a ≠ b → (T_A a).2.1 ≠ (T_A b).2.1 := by decide +kernel
theorem t_A_ok : ∀ k, k < 5 → parseFieldDescriptor (T_A k).2.2.1 = some (t_A k) := by decide +kernel
theorem tu_A : ∀ w ∈ u_ws R_A T_A 5, w ∈ gTb := by decide +kernel
def R_P : String := "GraphPages$Page"
def T_P : u_T := fun k => match k with
  | 0 => ("GraphPages$Page", "end", "I", false)
  | _ => ("GraphPages$Page", "characters", "[C", true)
def t_P : Nat → FieldType := fun k => match k with
  | 0 => .int
  | _ => .array .char
theorem n_P : ∀ a, a < 2 → ∀ b, b < 2 → a ≠ b → (T_P a).2.1 ≠ (T_P b).2.1 := by decide +kernel
theorem t_P_ok : ∀ k, k < 2 → parseFieldDescriptor (T_P k).2.2.1 = some (t_P k) := by decide +kernel
theorem tu_P : ∀ w ∈ u_ws R_P T_P 2, w ∈ gTb := by decide +kernel
def R_R : String := "GraphPages$Reach"
def T_R : u_T := fun k => match k with
  | 0 => ("GraphPages$Reach", "graph", "LGraphPages$Graph;", true)
  | 1 => ("GraphPages$Reach", "references", "[I", true)
  | 2 => ("GraphPages$Reach", "order", "[I", true)
  | _ => ("GraphPages$Reach", "count", "I", false)
def t_R : Nat → FieldType := fun k => match k with
  | 0 => .object "GraphPages$Graph"
  | 1 => .array .int
  | 2 => .array .int
  | _ => .int
theorem n_R : ∀ a, a < 4 → ∀ b, b < 4 → a ≠ b → (T_R a).2.1 ≠ (T_R b).2.1 := by decide +kernel
theorem t_R_ok : ∀ k, k < 4 → parseFieldDescriptor (T_R k).2.2.1 = some (t_R k) := by decide +kernel
theorem tu_R : ∀ w ∈ u_ws R_R T_R 4, w ∈ gTb := by decide +kernel
def R_W : String := "GraphPages$Writer"
def T_W : u_T := fun k => match k with
  | 0 => ("GraphPages$Writer", "graph", "LGraphPages$Graph;", true)
  | 1 => ("GraphPages$Writer", "reach", "LGraphPages$Reach;", true)
  | 2 => ("GraphPages$Writer", "page", "LGraphPages$Page;", true)
  | 3 => ("GraphPages$Writer", "ids", "[I", true)
  | 4 => ("GraphPages$Writer", "order", "[I", true)
  | _ => ("GraphPages$Writer", "count", "I", false)
def t_W : Nat → FieldType := fun k => match k with
  | 0 => .object "GraphPages$Graph"
  | 1 => .object "GraphPages$Reach"
  | 2 => .object "GraphPages$Page"
  | 3 => .array .int
  | 4 => .array .int
  | _ => .int
theorem n_W : ∀ a, a < 6 → ∀ b, b < 6 → a ≠ b → (T_W a).2.1 ≠ (T_W b).2.1 := by decide +kernel
theorem t_W_ok : ∀ k, k < 6 → parseFieldDescriptor (T_W k).2.2.1 = some (t_W k) := by decide +kernel
theorem tu_W : ∀ w ∈ u_ws R_W T_W 6, w ∈ gTb := by decide +kernel
def R_O : String := "GraphPages"
def T_O : u_T := fun k => match k with
  | 0 => ("GraphPages", "graph", "LGraphPages$Graph;", true)
  | 1 => ("GraphPages", "page", "LGraphPages$Page;", true)
  | 2 => ("GraphPages", "understood", "[Z", true)
  | 3 => ("GraphPages", "reach", "LGraphPages$Reach;", true)
  | 4 => ("GraphPages", "matching", "LGraphPages$Matching;", true)
  | 5 => ("GraphPages", "writer", "LGraphPages$Writer;", true)
  | 6 => ("GraphPages", "formReader", "LGraphPages$FormReader;", true)
  | _ => ("GraphPages", "graphReader", "LGraphPages$GraphReader;", true)
def t_O : Nat → FieldType := fun k => match k with
  | 0 => .object "GraphPages$Graph"
  | 1 => .object "GraphPages$Page"
  | 2 => .array .boolean
  | 3 => .object "GraphPages$Reach"
  | 4 => .object "GraphPages$Matching"
  | 5 => .object "GraphPages$Writer"
  | 6 => .object "GraphPages$FormReader"
  | _ => .object "GraphPages$GraphReader"
theorem n_O : ∀ a, a < 8 → ∀ b, b < 8 → a ≠ b → (T_O a).2.1 ≠ (T_O b).2.1 := by decide +kernel
theorem t_O_ok : ∀ k, k < 8 → parseFieldDescriptor (T_O k).2.2.1 = some (t_O k) := by decide +kernel
theorem tu_O : ∀ w ∈ u_ws R_O T_O 8, w ∈ gTb := by decide +kernel
def R_M : String := "GraphPagesModel"
def T_M : u_T := fun k => match k with
  | 0 => ("GraphPagesModel", "count", "I", false)
  | 1 => ("GraphPagesModel", "sort", "[I", true)
  | 2 => ("GraphPagesModel", "room", "[I", true)
  | 3 => ("GraphPagesModel", "what", "[I", true)
  | 4 => ("GraphPagesModel", "cell", "[I", true)
  | 5 => ("GraphPagesModel", "letters", "[I", true)
  | 6 => ("GraphPagesModel", "known", "[Z", true)
  | 7 => ("GraphPagesModel", "used", "I", false)
  | 8 => ("GraphPagesModel", "page", "[C", true)
  | 9 => ("GraphPagesModel", "elements", "I", false)
  | 10 => ("GraphPagesModel", "name", "[I", true)
  | 11 => ("GraphPagesModel", "parent", "[I", true)
  | 12 => ("GraphPagesModel", "firstAttr", "[I", true)
  | 13 => ("GraphPagesModel", "attrCount", "[I", true)
  | 14 => ("GraphPagesModel", "textLength", "[I", true)
  | 15 => ("GraphPagesModel", "text", "[C", true)
  | 16 => ("GraphPagesModel", "slot", "[I", true)
  | 17 => ("GraphPagesModel", "made", "[I", true)
  | 18 => ("GraphPagesModel", "attrs", "I", false)
  | 19 => ("GraphPagesModel", "attrName", "[I", true)
  | 20 => ("GraphPagesModel", "attrFrom", "[I", true)
  | 21 => ("GraphPagesModel", "attrTo", "[I", true)
  | 22 => ("GraphPagesModel", "at", "I", false)
  | 23 => ("GraphPagesModel", "open", "I", false)
  | 24 => ("GraphPagesModel", "depth", "I", false)
  | 25 => ("GraphPagesModel", "nameEnd", "I", false)
  | 26 => ("GraphPagesModel", "reached", "[Z", true)
  | 27 => ("GraphPagesModel", "refs", "[I", true)
  | 28 => ("GraphPagesModel", "id", "[I", true)
  | 29 => ("GraphPagesModel", "order", "[I", true)
  | 30 => ("GraphPagesModel", "given", "I", false)
  | 31 => ("GraphPagesModel", "pile", "[I", true)
  | 32 => ("GraphPagesModel", "piled", "I", false)
  | 33 => ("GraphPagesModel", "pair", "[I", true)
  | _ => ("GraphPagesModel", "back", "[I", true)
def t_M : Nat → FieldType := fun k => match k with
  | 0 => .int
  | 1 => .array .int
  | 2 => .array .int
  | 3 => .array .int
  | 4 => .array .int
  | 5 => .array .int
  | 6 => .array .boolean
  | 7 => .int
  | 8 => .array .char
  | 9 => .int
  | 10 => .array .int
  | 11 => .array .int
  | 12 => .array .int
  | 13 => .array .int
  | 14 => .array .int
  | 15 => .array .char
  | 16 => .array .int
  | 17 => .array .int
  | 18 => .int
  | 19 => .array .int
  | 20 => .array .int
  | 21 => .array .int
  | 22 => .int
  | 23 => .int
  | 24 => .int
  | 25 => .int
  | 26 => .array .boolean
  | 27 => .array .int
  | 28 => .array .int
  | 29 => .array .int
  | 30 => .int
  | 31 => .array .int
  | 32 => .int
  | 33 => .array .int
  | _ => .array .int
theorem n_M : ∀ a, a < 35 → ∀ b, b < 35 → a ≠ b → (T_M a).2.1 ≠ (T_M b).2.1 := by decide +kernel
theorem t_M_ok : ∀ k, k < 35 → parseFieldDescriptor (T_M k).2.2.1 = some (t_M k) := by decide +kernel
theorem tu_M : ∀ w ∈ u_ws R_M T_M 35, w ∈ gTb := by decide +kernel
def R_L : String := "GraphPagesLaw"
abbrev vwCl : List vw_C := [(R_E, T_E, 14), (R_F, T_F, 5), (R_G, T_G, 6), (R_H, T_H, 8), (R_A, T_A, 5), (R_P, T_P, 2), (R_R, T_R, 4), (R_W, T_W, 6), (R_O, T_O, 8), (R_M, T_M, 35)]
abbrev b_E_init : ByteArray := prog_2_method_1_code
def y_E_init : MethodName := ⟨R_E, "<init>", "()V"⟩
abbrev w_E_init : List Cond := Cond.code y_E_init b_E_init 1 none :: gTb
theorem tc_E_init : Cond.code y_E_init b_E_init 1 none ∈ gTb := gm1 (List.mem_of_getElem? (i := 149) rfl) rfl
abbrev b_E_removeAll : ByteArray := prog_2_method_2_code
def y_E_removeAll : MethodName := ⟨R_E, "removeAll", "()V"⟩
abbrev w_E_removeAll : List Cond := Cond.code y_E_removeAll b_E_removeAll 1 none :: gTb
theorem tc_E_removeAll : Cond.code y_E_removeAll b_E_removeAll 1 none ∈ gTb := gm3 (List.mem_of_getElem? (i := 91) rfl) rfl
abbrev b_E_addElement : ByteArray := prog_2_method_3_code
def y_E_addElement : MethodName := ⟨R_E, "addElement", "(II)Z"⟩
abbrev w_E_addElement : List Cond := Cond.code y_E_addElement b_E_addElement 3 (some .boolean) :: gTb
theorem tc_E_addElement : Cond.code y_E_addElement b_E_addElement 3 (some .boolean) ∈ gTb := gm3 (List.mem_of_getElem? (i := 114) rfl) rfl
abbrev b_E_addAttribute : ByteArray := prog_2_method_4_code
def y_E_addAttribute : MethodName := ⟨R_E, "addAttribute", "(III)Z"⟩
abbrev w_E_addAttribute : List Cond := Cond.code y_E_addAttribute b_E_addAttribute 4 (some .boolean) :: gTb
theorem tc_E_addAttribute : Cond.code y_E_addAttribute b_E_addAttribute 4 (some .boolean) ∈ gTb := gm3 (List.mem_of_getElem? (i := 137) rfl) rfl
abbrev b_E_addText : ByteArray := prog_2_method_5_code
def y_E_addText : MethodName := ⟨R_E, "addText", "(II)Z"⟩
abbrev w_E_addText : List Cond := Cond.code y_E_addText b_E_addText 3 (some .boolean) :: gTb
theorem tc_E_addText : Cond.code y_E_addText b_E_addText 3 (some .boolean) ∈ gTb := gm3 (List.mem_of_getElem? (i := 153) rfl) rfl
abbrev b_E_findAttribute : ByteArray := prog_2_method_6_code
def y_E_findAttribute : MethodName := ⟨R_E, "findAttribute", "(II)I"⟩
abbrev w_E_findAttribute : List Cond := Cond.code y_E_findAttribute b_E_findAttribute 5 (some .int) :: gTb
theorem tc_E_findAttribute : Cond.code y_E_findAttribute b_E_findAttribute 5 (some .int) ∈ gTb := gm3 (List.mem_of_getElem? (i := 126) rfl) rfl
abbrev b_E_isEmpty : ByteArray := prog_2_method_7_code
def y_E_isEmpty : MethodName := ⟨R_E, "isEmpty", "(I)Z"⟩
abbrev w_E_isEmpty : List Cond := Cond.code y_E_isEmpty b_E_isEmpty 2 (some .boolean) :: gTb
theorem tc_E_isEmpty : Cond.code y_E_isEmpty b_E_isEmpty 2 (some .boolean) ∈ gTb := gm3 (List.mem_of_getElem? (i := 236) rfl) rfl
abbrev b_F_init : ByteArray := prog_3_method_1_code
def y_F_init : MethodName := ⟨R_F, "<init>", "(LGraphPages$Page;LGraphPages$Elements;)V"⟩
abbrev w_F_init : List Cond := Cond.code y_F_init b_F_init 3 none :: gTb
theorem tc_F_init : Cond.code y_F_init b_F_init 3 none ∈ gTb := gm1 (List.mem_of_getElem? (i := 213) rfl) rfl
abbrev b_F_isWellFormed : ByteArray := prog_3_method_2_code
def y_F_isWellFormed : MethodName := ⟨R_F, "isWellFormed", "()Z"⟩
abbrev w_F_isWellFormed : List Cond := Cond.code y_F_isWellFormed b_F_isWellFormed 2 (some .boolean) :: gTb
theorem tc_F_isWellFormed : Cond.code y_F_isWellFormed b_F_isWellFormed 2 (some .boolean) ∈ gTb := gm3 (List.mem_of_getElem? (i := 87) rfl) rfl
abbrev b_F_readPiece : ByteArray := prog_3_method_3_code
def y_F_readPiece : MethodName := ⟨R_F, "readPiece", "()Z"⟩
abbrev w_F_readPiece : List Cond := Cond.code y_F_readPiece b_F_readPiece 2 (some .boolean) :: gTb
theorem tc_F_readPiece : Cond.code y_F_readPiece b_F_readPiece 2 (some .boolean) ∈ gTb := gm3 (List.mem_of_getElem? (i := 95) rfl) rfl
abbrev b_F_readStart : ByteArray := prog_3_method_4_code
def y_F_readStart : MethodName := ⟨R_F, "readStart", "()Z"⟩
abbrev w_F_readStart : List Cond := Cond.code y_F_readStart b_F_readStart 5 (some .boolean) :: gTb
theorem tc_F_readStart : Cond.code y_F_readStart b_F_readStart 5 (some .boolean) ∈ gTb := gm3 (List.mem_of_getElem? (i := 103) rfl) rfl
abbrev b_F_readAttribute : ByteArray := prog_3_method_5_code
def y_F_readAttribute : MethodName := ⟨R_F, "readAttribute", "(I)Z"⟩
abbrev w_F_readAttribute : List Cond := Cond.code y_F_readAttribute b_F_readAttribute 4 (some .boolean) :: gTb
theorem tc_F_readAttribute : Cond.code y_F_readAttribute b_F_readAttribute 4 (some .boolean) ∈ gTb := gm3 (List.mem_of_getElem? (i := 122) rfl) rfl
abbrev b_F_mayStandInValue : ByteArray := prog_3_method_6_code
def y_F_mayStandInValue : MethodName := ⟨R_F, "mayStandInValue", "(I)Z"⟩
abbrev w_F_mayStandInValue : List Cond := Cond.code y_F_mayStandInValue b_F_mayStandInValue 1 (some .boolean) :: gTb
theorem tc_F_mayStandInValue : Cond.code y_F_mayStandInValue b_F_mayStandInValue 1 (some .boolean) ∈ gTb := gm3 (List.mem_of_getElem? (i := 133) rfl) rfl
abbrev b_F_readEnd : ByteArray := prog_3_method_7_code
def y_F_readEnd : MethodName := ⟨R_F, "readEnd", "()Z"⟩
abbrev w_F_readEnd : List Cond := Cond.code y_F_readEnd b_F_readEnd 1 (some .boolean) :: gTb
theorem tc_F_readEnd : Cond.code y_F_readEnd b_F_readEnd 1 (some .boolean) ∈ gTb := gm3 (List.mem_of_getElem? (i := 141) rfl) rfl
abbrev b_F_readEntity : ByteArray := prog_3_method_8_code
def y_F_readEntity : MethodName := ⟨R_F, "readEntity", "()Z"⟩
abbrev w_F_readEntity : List Cond := Cond.code y_F_readEntity b_F_readEntity 1 (some .boolean) :: gTb
theorem tc_F_readEntity : Cond.code y_F_readEntity b_F_readEntity 1 (some .boolean) ∈ gTb := gm3 (List.mem_of_getElem? (i := 157) rfl) rfl
abbrev b_F_readEntityOf : ByteArray := prog_3_method_9_code
def y_F_readEntityOf : MethodName := ⟨R_F, "readEntityOf", "(Ljava/lang/String;C)Z"⟩
abbrev w_F_readEntityOf : List Cond := Cond.code y_F_readEntityOf b_F_readEntityOf 3 (some .boolean) :: gTb
theorem tc_F_readEntityOf : Cond.code y_F_readEntityOf b_F_readEntityOf 3 (some .boolean) ∈ gTb := gm3 (List.mem_of_getElem? (i := 162) rfl) rfl
abbrev b_F_readCode : ByteArray := prog_3_method_10_code
def y_F_readCode : MethodName := ⟨R_F, "readCode", "()Z"⟩
abbrev w_F_readCode : List Cond := Cond.code y_F_readCode b_F_readCode 3 (some .boolean) :: gTb
theorem tc_F_readCode : Cond.code y_F_readCode b_F_readCode 3 (some .boolean) ∈ gTb := gm3 (List.mem_of_getElem? (i := 145) rfl) rfl
abbrev b_F_readName : ByteArray := prog_3_method_11_code
def y_F_readName : MethodName := ⟨R_F, "readName", "()I"⟩
abbrev w_F_readName : List Cond := Cond.code y_F_readName b_F_readName 3 (some .int) :: gTb
theorem tc_F_readName : Cond.code y_F_readName b_F_readName 3 (some .int) ∈ gTb := gm3 (List.mem_of_getElem? (i := 107) rfl) rfl
abbrev b_F_skipSpaces : ByteArray := prog_3_method_12_code
def y_F_skipSpaces : MethodName := ⟨R_F, "skipSpaces", "()Z"⟩
abbrev w_F_skipSpaces : List Cond := Cond.code y_F_skipSpaces b_F_skipSpaces 2 (some .boolean) :: gTb
theorem tc_F_skipSpaces : Cond.code y_F_skipSpaces b_F_skipSpaces 2 (some .boolean) ∈ gTb := gm3 (List.mem_of_getElem? (i := 118) rfl) rfl
abbrev b_F_skip : ByteArray := prog_3_method_13_code
def y_F_skip : MethodName := ⟨R_F, "skip", "(C)Z"⟩
abbrev w_F_skip : List Cond := Cond.code y_F_skip b_F_skip 2 (some .boolean) :: gTb
theorem tc_F_skip : Cond.code y_F_skip b_F_skip 2 (some .boolean) ∈ gTb := gm3 (List.mem_of_getElem? (i := 130) rfl) rfl
abbrev b_G_init : ByteArray := prog_4_method_1_code
def y_G_init : MethodName := ⟨R_G, "<init>", "()V"⟩
abbrev w_G_init : List Cond := Cond.code y_G_init b_G_init 1 none :: gTb
theorem tc_G_init : Cond.code y_G_init b_G_init 1 none ∈ gTb := gm1 (List.mem_of_getElem? (i := 29) rfl) rfl
abbrev b_G_has : ByteArray := prog_4_method_2_code
def y_G_has : MethodName := ⟨R_G, "has", "(I)Z"⟩
abbrev w_G_has : List Cond := Cond.code y_G_has b_G_has 2 (some .boolean) :: gTb
theorem tc_G_has : Cond.code y_G_has b_G_has 2 (some .boolean) ∈ gTb := gm2 (List.mem_of_getElem? (i := 74) rfl) rfl
abbrev b_G_isText : ByteArray := prog_4_method_3_code
def y_G_isText : MethodName := ⟨R_G, "isText", "(I)Z"⟩
abbrev w_G_isText : List Cond := Cond.code y_G_isText b_G_isText 2 (some .boolean) :: gTb
theorem tc_G_isText : Cond.code y_G_isText b_G_isText 2 (some .boolean) ∈ gTb := gm2 (List.mem_of_getElem? (i := 70) rfl) rfl
abbrev b_G_hasSlot : ByteArray := prog_4_method_4_code
def y_G_hasSlot : MethodName := ⟨R_G, "hasSlot", "(II)Z"⟩
abbrev w_G_hasSlot : List Cond := Cond.code y_G_hasSlot b_G_hasSlot 3 (some .boolean) :: gTb
theorem tc_G_hasSlot : Cond.code y_G_hasSlot b_G_hasSlot 3 (some .boolean) ∈ gTb := gm2 (List.mem_of_getElem? (i := 89) rfl) rfl
abbrev b_G_add : ByteArray := prog_4_method_5_code
def y_G_add : MethodName := ⟨R_G, "add", "(II)I"⟩
abbrev w_G_add : List Cond := Cond.code y_G_add b_G_add 3 (some .int) :: gTb
theorem tc_G_add : Cond.code y_G_add b_G_add 3 (some .int) ∈ gTb := gm2 (List.mem_of_getElem? (i := 54) rfl) rfl
abbrev b_G_lay : ByteArray := prog_4_method_6_code
def y_G_lay : MethodName := ⟨R_G, "lay", "(III)V"⟩
abbrev w_G_lay : List Cond := Cond.code y_G_lay b_G_lay 5 none :: gTb
theorem tc_G_lay : Cond.code y_G_lay b_G_lay 5 none ∈ gTb := gm2 (List.mem_of_getElem? (i := 58) rfl) rfl
abbrev b_G_setSlot : ByteArray := prog_4_method_7_code
def y_G_setSlot : MethodName := ⟨R_G, "setSlot", "(IIII)V"⟩
abbrev w_G_setSlot : List Cond := Cond.code y_G_setSlot b_G_setSlot 5 none :: gTb
theorem tc_G_setSlot : Cond.code y_G_setSlot b_G_setSlot 5 none ∈ gTb := gm2 (List.mem_of_getElem? (i := 62) rfl) rfl
abbrev b_G_contentOf : ByteArray := prog_4_method_8_code
def y_G_contentOf : MethodName := ⟨R_G, "contentOf", "(II)I"⟩
abbrev w_G_contentOf : List Cond := Cond.code y_G_contentOf b_G_contentOf 3 (some .int) :: gTb
theorem tc_G_contentOf : Cond.code y_G_contentOf b_G_contentOf 3 (some .int) ∈ gTb := gm2 (List.mem_of_getElem? (i := 115) rfl) rfl
abbrev b_G_valueOf : ByteArray := prog_4_method_9_code
def y_G_valueOf : MethodName := ⟨R_G, "valueOf", "(II)I"⟩
abbrev w_G_valueOf : List Cond := Cond.code y_G_valueOf b_G_valueOf 3 (some .int) :: gTb
theorem tc_G_valueOf : Cond.code y_G_valueOf b_G_valueOf 3 (some .int) ∈ gTb := gm2 (List.mem_of_getElem? (i := 123) rfl) rfl
abbrev b_G_addCharacter : ByteArray := prog_4_method_10_code
def y_G_addCharacter : MethodName := ⟨R_G, "addCharacter", "(IC)Z"⟩
abbrev w_G_addCharacter : List Cond := Cond.code y_G_addCharacter b_G_addCharacter 3 (some .boolean) :: gTb
theorem tc_G_addCharacter : Cond.code y_G_addCharacter b_G_addCharacter 3 (some .boolean) ∈ gTb := gm2 (List.mem_of_getElem? (i := 81) rfl) rfl
abbrev b_G_characterOf : ByteArray := prog_4_method_11_code
def y_G_characterOf : MethodName := ⟨R_G, "characterOf", "(II)C"⟩
abbrev w_G_characterOf : List Cond := Cond.code y_G_characterOf b_G_characterOf 3 (some .char) :: gTb
theorem tc_G_characterOf : Cond.code y_G_characterOf b_G_characterOf 3 (some .char) ∈ gTb := gm2 (List.mem_of_getElem? (i := 127) rfl) rfl
abbrev b_H_init : ByteArray := prog_5_method_1_code
def y_H_init : MethodName := ⟨R_H, "<init>", "(LGraphPages$Page;LGraphPages$Elements;LGraphPages$Graph;)V"⟩
abbrev w_H_init : List Cond := Cond.code y_H_init b_H_init 4 none :: gTb
theorem tc_H_init : Cond.code y_H_init b_H_init 4 none ∈ gTb := gm1 (List.mem_of_getElem? (i := 235) rfl) rfl
abbrev b_H_knowsVersion : ByteArray := prog_5_method_2_code
def y_H_knowsVersion : MethodName := ⟨R_H, "knowsVersion", "()Z"⟩
abbrev w_H_knowsVersion : List Cond := Cond.code y_H_knowsVersion b_H_knowsVersion 1 (some .boolean) :: gTb
theorem tc_H_knowsVersion : Cond.code y_H_knowsVersion b_H_knowsVersion 1 (some .boolean) ∈ gTb := gm3 (List.mem_of_getElem? (i := 177) rfl) rfl
abbrev b_H_understandsHeaders : ByteArray := prog_5_method_3_code
def y_H_understandsHeaders : MethodName := ⟨R_H, "understandsHeaders", "([Z)Z"⟩
abbrev w_H_understandsHeaders : List Cond := Cond.code y_H_understandsHeaders b_H_understandsHeaders 4 (some .boolean) :: gTb
theorem tc_H_understandsHeaders : Cond.code y_H_understandsHeaders b_H_understandsHeaders 4 (some .boolean) ∈ gTb := gm3 (List.mem_of_getElem? (i := 187) rfl) rfl
abbrev b_H_isUnderstood : ByteArray := prog_5_method_4_code
def y_H_isUnderstood : MethodName := ⟨R_H, "isUnderstood", "(I[Z)Z"⟩
abbrev w_H_isUnderstood : List Cond := Cond.code y_H_isUnderstood b_H_isUnderstood 2 (some .boolean) :: gTb
theorem tc_H_isUnderstood : Cond.code y_H_isUnderstood b_H_isUnderstood 2 (some .boolean) ∈ gTb := gm3 (List.mem_of_getElem? (i := 199) rfl) rfl
abbrev b_H_readGraph : ByteArray := prog_5_method_5_code
def y_H_readGraph : MethodName := ⟨R_H, "readGraph", "()I"⟩
abbrev w_H_readGraph : List Cond := Cond.code y_H_readGraph b_H_readGraph 4 (some .int) :: gTb
theorem tc_H_readGraph : Cond.code y_H_readGraph b_H_readGraph 4 (some .int) ∈ gTb := gm3 (List.mem_of_getElem? (i := 203) rfl) rfl
abbrev b_H_findBody : ByteArray := prog_5_method_6_code
def y_H_findBody : MethodName := ⟨R_H, "findBody", "()I"⟩
abbrev w_H_findBody : List Cond := Cond.code y_H_findBody b_H_findBody 3 (some .int) :: gTb
theorem tc_H_findBody : Cond.code y_H_findBody b_H_findBody 3 (some .int) ∈ gTb := gm3 (List.mem_of_getElem? (i := 207) rfl) rfl
abbrev b_H_isSoundBody : ByteArray := prog_5_method_7_code
def y_H_isSoundBody : MethodName := ⟨R_H, "isSoundBody", "(I)Z"⟩
abbrev w_H_isSoundBody : List Cond := Cond.code y_H_isSoundBody b_H_isSoundBody 2 (some .boolean) :: gTb
theorem tc_H_isSoundBody : Cond.code y_H_isSoundBody b_H_isSoundBody 2 (some .boolean) ∈ gTb := gm3 (List.mem_of_getElem? (i := 211) rfl) rfl
abbrev b_H_isSound : ByteArray := prog_5_method_8_code
def y_H_isSound : MethodName := ⟨R_H, "isSound", "(I)Z"⟩
abbrev w_H_isSound : List Cond := Cond.code y_H_isSound b_H_isSound 2 (some .boolean) :: gTb
theorem tc_H_isSound : Cond.code y_H_isSound b_H_isSound 2 (some .boolean) ∈ gTb := gm3 (List.mem_of_getElem? (i := 216) rfl) rfl
abbrev b_H_hasSoundAttributes : ByteArray := prog_5_method_9_code
def y_H_hasSoundAttributes : MethodName := ⟨R_H, "hasSoundAttributes", "(I)Z"⟩
abbrev w_H_hasSoundAttributes : List Cond := Cond.code y_H_hasSoundAttributes b_H_hasSoundAttributes 4 (some .boolean) :: gTb
theorem tc_H_hasSoundAttributes : Cond.code y_H_hasSoundAttributes b_H_hasSoundAttributes 4 (some .boolean) ∈ gTb := gm3 (List.mem_of_getElem? (i := 220) rfl) rfl
abbrev b_H_mayBear : ByteArray := prog_5_method_10_code
def y_H_mayBear : MethodName := ⟨R_H, "mayBear", "(II)Z"⟩
abbrev w_H_mayBear : List Cond := Cond.code y_H_mayBear b_H_mayBear 4 (some .boolean) :: gTb
theorem tc_H_mayBear : Cond.code y_H_mayBear b_H_mayBear 4 (some .boolean) ∈ gTb := gm3 (List.mem_of_getElem? (i := 224) rfl) rfl
abbrev b_H_hasSoundSize : ByteArray := prog_5_method_11_code
def y_H_hasSoundSize : MethodName := ⟨R_H, "hasSoundSize", "(I)Z"⟩
abbrev w_H_hasSoundSize : List Cond := Cond.code y_H_hasSoundSize b_H_hasSoundSize 3 (some .boolean) :: gTb
theorem tc_H_hasSoundSize : Cond.code y_H_hasSoundSize b_H_hasSoundSize 3 (some .boolean) ∈ gTb := gm3 (List.mem_of_getElem? (i := 232) rfl) rfl
abbrev b_H_isObject : ByteArray := prog_5_method_12_code
def y_H_isObject : MethodName := ⟨R_H, "isObject", "(I)Z"⟩
abbrev w_H_isObject : List Cond := Cond.code y_H_isObject b_H_isObject 3 (some .boolean) :: gTb
theorem tc_H_isObject : Cond.code y_H_isObject b_H_isObject 3 (some .boolean) ∈ gTb := gm3 (List.mem_of_getElem? (i := 228) rfl) rfl
abbrev b_H_numberObject : ByteArray := prog_5_method_13_code
def y_H_numberObject : MethodName := ⟨R_H, "numberObject", "(I)Z"⟩
abbrev w_H_numberObject : List Cond := Cond.code y_H_numberObject b_H_numberObject 2 (some .boolean) :: gTb
theorem tc_H_numberObject : Cond.code y_H_numberObject b_H_numberObject 2 (some .boolean) ∈ gTb := gm4 (List.mem_of_getElem? (i := 7) rfl) rfl
abbrev b_H_layObject : ByteArray := prog_5_method_14_code
def y_H_layObject : MethodName := ⟨R_H, "layObject", "(II)V"⟩
abbrev w_H_layObject : List Cond := Cond.code y_H_layObject b_H_layObject 4 none :: gTb
theorem tc_H_layObject : Cond.code y_H_layObject b_H_layObject 4 none ∈ gTb := gm4 (List.mem_of_getElem? (i := 11) rfl) rfl
abbrev b_H_keepId : ByteArray := prog_5_method_15_code
def y_H_keepId : MethodName := ⟨R_H, "keepId", "(I)Z"⟩
abbrev w_H_keepId : List Cond := Cond.code y_H_keepId b_H_keepId 3 (some .boolean) :: gTb
theorem tc_H_keepId : Cond.code y_H_keepId b_H_keepId 3 (some .boolean) ∈ gTb := gm4 (List.mem_of_getElem? (i := 20) rfl) rfl
abbrev b_H_mayStandInBody : ByteArray := prog_5_method_16_code
def y_H_mayStandInBody : MethodName := ⟨R_H, "mayStandInBody", "(II)Z"⟩
abbrev w_H_mayStandInBody : List Cond := Cond.code y_H_mayStandInBody b_H_mayStandInBody 3 (some .boolean) :: gTb
theorem tc_H_mayStandInBody : Cond.code y_H_mayStandInBody b_H_mayStandInBody 3 (some .boolean) ∈ gTb := gm4 (List.mem_of_getElem? (i := 24) rfl) rfl
abbrev b_H_fillSlot : ByteArray := prog_5_method_17_code
def y_H_fillSlot : MethodName := ⟨R_H, "fillSlot", "(I)Z"⟩
abbrev w_H_fillSlot : List Cond := Cond.code y_H_fillSlot b_H_fillSlot 4 (some .boolean) :: gTb
theorem tc_H_fillSlot : Cond.code y_H_fillSlot b_H_fillSlot 4 (some .boolean) ∈ gTb := gm4 (List.mem_of_getElem? (i := 32) rfl) rfl
abbrev b_H_holdElement : ByteArray := prog_5_method_18_code
def y_H_holdElement : MethodName := ⟨R_H, "holdElement", "(III)Z"⟩
abbrev w_H_holdElement : List Cond := Cond.code y_H_holdElement b_H_holdElement 5 (some .boolean) :: gTb
theorem tc_H_holdElement : Cond.code y_H_holdElement b_H_holdElement 5 (some .boolean) ∈ gTb := gm4 (List.mem_of_getElem? (i := 36) rfl) rfl
abbrev b_H_referredBy : ByteArray := prog_5_method_19_code
def y_H_referredBy : MethodName := ⟨R_H, "referredBy", "(I)I"⟩
abbrev w_H_referredBy : List Cond := Cond.code y_H_referredBy b_H_referredBy 3 (some .int) :: gTb
theorem tc_H_referredBy : Cond.code y_H_referredBy b_H_referredBy 3 (some .int) ∈ gTb := gm4 (List.mem_of_getElem? (i := 28) rfl) rfl
abbrev b_H_isOne : ByteArray := prog_5_method_20_code
def y_H_isOne : MethodName := ⟨R_H, "isOne", "(II)Z"⟩
abbrev w_H_isOne : List Cond := Cond.code y_H_isOne b_H_isOne 4 (some .boolean) :: gTb
theorem tc_H_isOne : Cond.code y_H_isOne b_H_isOne 4 (some .boolean) ∈ gTb := gm3 (List.mem_of_getElem? (i := 181) rfl) rfl
abbrev b_H_countIn : ByteArray := prog_5_method_21_code
def y_H_countIn : MethodName := ⟨R_H, "countIn", "(II)I"⟩
abbrev w_H_countIn : List Cond := Cond.code y_H_countIn b_H_countIn 4 (some .int) :: gTb
theorem tc_H_countIn : Cond.code y_H_countIn b_H_countIn 4 (some .int) ∈ gTb := gm3 (List.mem_of_getElem? (i := 191) rfl) rfl
abbrev b_H_countOf : ByteArray := prog_5_method_22_code
def y_H_countOf : MethodName := ⟨R_H, "countOf", "(I)I"⟩
abbrev w_H_countOf : List Cond := Cond.code y_H_countOf b_H_countOf 6 (some .int) :: gTb
theorem tc_H_countOf : Cond.code y_H_countOf b_H_countOf 6 (some .int) ∈ gTb := gm3 (List.mem_of_getElem? (i := 195) rfl) rfl
abbrev b_H_numberIn : ByteArray := prog_5_method_23_code
def y_H_numberIn : MethodName := ⟨R_H, "numberIn", "(I)J"⟩
abbrev w_H_numberIn : List Cond := Cond.code y_H_numberIn b_H_numberIn 8 (some .long) :: gTb
theorem tc_H_numberIn : Cond.code y_H_numberIn b_H_numberIn 8 (some .long) ∈ gTb := gm4 (List.mem_of_getElem? (i := 0) rfl) rfl
abbrev b_A_init : ByteArray := prog_6_method_1_code
def y_A_init : MethodName := ⟨R_A, "<init>", "(LGraphPages$Graph;)V"⟩
abbrev w_A_init : List Cond := Cond.code y_A_init b_A_init 2 none :: gTb
theorem tc_A_init : Cond.code y_A_init b_A_init 2 none ∈ gTb := gm1 (List.mem_of_getElem? (i := 102) rfl) rfl
abbrev b_A_exists : ByteArray := prog_6_method_2_code
def y_A_exists : MethodName := ⟨R_A, "exists", "(II)Z"⟩
abbrev w_A_exists : List Cond := Cond.code y_A_exists b_A_exists 5 (some .boolean) :: gTb
theorem tc_A_exists : Cond.code y_A_exists b_A_exists 5 (some .boolean) ∈ gTb := gm2 (List.mem_of_getElem? (i := 135) rfl) rfl
abbrev b_A_match : ByteArray := prog_6_method_3_code
def y_A_match : MethodName := ⟨R_A, "match", "(II)Z"⟩
abbrev w_A_match : List Cond := Cond.code y_A_match b_A_match 3 (some .boolean) :: gTb
theorem tc_A_match : Cond.code y_A_match b_A_match 3 (some .boolean) ∈ gTb := gm2 (List.mem_of_getElem? (i := 142) rfl) rfl
abbrev b_A_haveSameInside : ByteArray := prog_6_method_4_code
def y_A_haveSameInside : MethodName := ⟨R_A, "haveSameInside", "(II)Z"⟩
abbrev w_A_haveSameInside : List Cond := Cond.code y_A_haveSameInside b_A_haveSameInside 3 (some .boolean) :: gTb
theorem tc_A_haveSameInside : Cond.code y_A_haveSameInside b_A_haveSameInside 3 (some .boolean) ∈ gTb := gm2 (List.mem_of_getElem? (i := 146) rfl) rfl
abbrev b_A_haveSameCharacters : ByteArray := prog_6_method_5_code
def y_A_haveSameCharacters : MethodName := ⟨R_A, "haveSameCharacters", "(II)Z"⟩
abbrev w_A_haveSameCharacters : List Cond := Cond.code y_A_haveSameCharacters b_A_haveSameCharacters 4 (some .boolean) :: gTb
theorem tc_A_haveSameCharacters : Cond.code y_A_haveSameCharacters b_A_haveSameCharacters 4 (some .boolean) ∈ gTb := gm2 (List.mem_of_getElem? (i := 151) rfl) rfl
abbrev b_A_haveSameSlots : ByteArray := prog_6_method_6_code
def y_A_haveSameSlots : MethodName := ⟨R_A, "haveSameSlots", "(II)Z"⟩
abbrev w_A_haveSameSlots : List Cond := Cond.code y_A_haveSameSlots b_A_haveSameSlots 4 (some .boolean) :: gTb
theorem tc_A_haveSameSlots : Cond.code y_A_haveSameSlots b_A_haveSameSlots 4 (some .boolean) ∈ gTb := gm2 (List.mem_of_getElem? (i := 156) rfl) rfl
abbrev b_A_haveSameSlot : ByteArray := prog_6_method_7_code
def y_A_haveSameSlot : MethodName := ⟨R_A, "haveSameSlot", "(III)Z"⟩
abbrev w_A_haveSameSlot : List Cond := Cond.code y_A_haveSameSlot b_A_haveSameSlot 4 (some .boolean) :: gTb
theorem tc_A_haveSameSlot : Cond.code y_A_haveSameSlot b_A_haveSameSlot 4 (some .boolean) ∈ gTb := gm2 (List.mem_of_getElem? (i := 160) rfl) rfl
abbrev b_P_init : ByteArray := prog_7_method_1_code
def y_P_init : MethodName := ⟨R_P, "<init>", "()V"⟩
abbrev w_P_init : List Cond := Cond.code y_P_init b_P_init 1 none :: gTb
theorem tc_P_init : Cond.code y_P_init b_P_init 1 none ∈ gTb := gm1 (List.mem_of_getElem? (i := 65) rfl) rfl
abbrev b_P_codeAt : ByteArray := prog_7_method_2_code
def y_P_codeAt : MethodName := ⟨R_P, "codeAt", "(I)I"⟩
abbrev w_P_codeAt : List Cond := Cond.code y_P_codeAt b_P_codeAt 2 (some .int) :: gTb
theorem tc_P_codeAt : Cond.code y_P_codeAt b_P_codeAt 2 (some .int) ∈ gTb := gm3 (List.mem_of_getElem? (i := 99) rfl) rfl
abbrev b_P_append : ByteArray := prog_7_method_3_code
def y_P_append : MethodName := ⟨R_P, "append", "(C)Z"⟩
abbrev w_P_append : List Cond := Cond.code y_P_append b_P_append 2 (some .boolean) :: gTb
theorem tc_P_append : Cond.code y_P_append b_P_append 2 (some .boolean) ∈ gTb := gm3 (List.mem_of_getElem? (i := 17) rfl) rfl
abbrev b_P_showsAt : ByteArray := prog_7_method_4_code
def y_P_showsAt : MethodName := ⟨R_P, "showsAt", "(ILjava/lang/String;)Z"⟩
abbrev w_P_showsAt : List Cond := Cond.code y_P_showsAt b_P_showsAt 4 (some .boolean) :: gTb
theorem tc_P_showsAt : Cond.code y_P_showsAt b_P_showsAt 4 (some .boolean) ∈ gTb := gm3 (List.mem_of_getElem? (i := 166) rfl) rfl
abbrev b_R_init : ByteArray := prog_8_method_1_code
def y_R_init : MethodName := ⟨R_R, "<init>", "(LGraphPages$Graph;)V"⟩
abbrev w_R_init : List Cond := Cond.code y_R_init b_R_init 2 none :: gTb
theorem tc_R_init : Cond.code y_R_init b_R_init 2 none ∈ gTb := gm1 (List.mem_of_getElem? (i := 82) rfl) rfl
abbrev b_R_startFrom : ByteArray := prog_8_method_2_code
def y_R_startFrom : MethodName := ⟨R_R, "startFrom", "(I)V"⟩
abbrev w_R_startFrom : List Cond := Cond.code y_R_startFrom b_R_startFrom 3 none :: gTb
theorem tc_R_startFrom : Cond.code y_R_startFrom b_R_startFrom 3 none ∈ gTb := gm2 (List.mem_of_getElem? (i := 170) rfl) rfl
abbrev b_R_followSlots : ByteArray := prog_8_method_3_code
def y_R_followSlots : MethodName := ⟨R_R, "followSlots", "(I)V"⟩
abbrev w_R_followSlots : List Cond := Cond.code y_R_followSlots b_R_followSlots 3 none :: gTb
theorem tc_R_followSlots : Cond.code y_R_followSlots b_R_followSlots 3 none ∈ gTb := gm2 (List.mem_of_getElem? (i := 179) rfl) rfl
abbrev b_R_refer : ByteArray := prog_8_method_4_code
def y_R_refer : MethodName := ⟨R_R, "refer", "(I)V"⟩
abbrev w_R_refer : List Cond := Cond.code y_R_refer b_R_refer 2 none :: gTb
theorem tc_R_refer : Cond.code y_R_refer b_R_refer 2 none ∈ gTb := gm2 (List.mem_of_getElem? (i := 175) rfl) rfl
abbrev b_R_isShared : ByteArray := prog_8_method_5_code
def y_R_isShared : MethodName := ⟨R_R, "isShared", "(I)Z"⟩
abbrev w_R_isShared : List Cond := Cond.code y_R_isShared b_R_isShared 2 (some .boolean) :: gTb
theorem tc_R_isShared : Cond.code y_R_isShared b_R_isShared 2 (some .boolean) ∈ gTb := gm2 (List.mem_of_getElem? (i := 190) rfl) rfl
abbrev b_R_countShared : ByteArray := prog_8_method_6_code
def y_R_countShared : MethodName := ⟨R_R, "countShared", "()I"⟩
abbrev w_R_countShared : List Cond := Cond.code y_R_countShared b_R_countShared 3 (some .int) :: gTb
theorem tc_R_countShared : Cond.code y_R_countShared b_R_countShared 3 (some .int) ∈ gTb := gm2 (List.mem_of_getElem? (i := 186) rfl) rfl
abbrev b_W_init : ByteArray := prog_9_method_1_code
def y_W_init : MethodName := ⟨R_W, "<init>", "(LGraphPages$Graph;LGraphPages$Reach;LGraphPages$Page;)V"⟩
abbrev w_W_init : List Cond := Cond.code y_W_init b_W_init 4 none :: gTb
theorem tc_W_init : Cond.code y_W_init b_W_init 4 none ∈ gTb := gm1 (List.mem_of_getElem? (i := 124) rfl) rfl
abbrev b_W_writeFrom : ByteArray := prog_9_method_2_code
def y_W_writeFrom : MethodName := ⟨R_W, "writeFrom", "(I)V"⟩
abbrev w_W_writeFrom : List Cond := Cond.code y_W_writeFrom b_W_writeFrom 3 none :: gTb
theorem tc_W_writeFrom : Cond.code y_W_writeFrom b_W_writeFrom 3 none ∈ gTb := gm2 (List.mem_of_getElem? (i := 198) rfl) rfl
abbrev b_W_writeReference : ByteArray := prog_9_method_3_code
def y_W_writeReference : MethodName := ⟨R_W, "writeReference", "(II)V"⟩
abbrev w_W_writeReference : List Cond := Cond.code y_W_writeReference b_W_writeReference 3 none :: gTb
theorem tc_W_writeReference : Cond.code y_W_writeReference b_W_writeReference 3 none ∈ gTb := gm3 (List.mem_of_getElem? (i := 21) rfl) rfl
abbrev b_W_giveId : ByteArray := prog_9_method_4_code
def y_W_giveId : MethodName := ⟨R_W, "giveId", "(I)V"⟩
abbrev w_W_giveId : List Cond := Cond.code y_W_giveId b_W_giveId 2 none :: gTb
theorem tc_W_giveId : Cond.code y_W_giveId b_W_giveId 2 none ∈ gTb := gm3 (List.mem_of_getElem? (i := 26) rfl) rfl
abbrev b_W_writeElement : ByteArray := prog_9_method_5_code
def y_W_writeElement : MethodName := ⟨R_W, "writeElement", "(II)V"⟩
abbrev w_W_writeElement : List Cond := Cond.code y_W_writeElement b_W_writeElement 5 none :: gTb
theorem tc_W_writeElement : Cond.code y_W_writeElement b_W_writeElement 5 none ∈ gTb := gm3 (List.mem_of_getElem? (i := 43) rfl) rfl
abbrev b_W_firstWrittenSlot : ByteArray := prog_9_method_6_code
def y_W_firstWrittenSlot : MethodName := ⟨R_W, "firstWrittenSlot", "(I)I"⟩
abbrev w_W_firstWrittenSlot : List Cond := Cond.code y_W_firstWrittenSlot b_W_firstWrittenSlot 3 (some .int) :: gTb
theorem tc_W_firstWrittenSlot : Cond.code y_W_firstWrittenSlot b_W_firstWrittenSlot 3 (some .int) ∈ gTb := gm3 (List.mem_of_getElem? (i := 47) rfl) rfl
abbrev b_W_behindLastWrittenSlot : ByteArray := prog_9_method_7_code
def y_W_behindLastWrittenSlot : MethodName := ⟨R_W, "behindLastWrittenSlot", "(I)I"⟩
abbrev w_W_behindLastWrittenSlot : List Cond := Cond.code y_W_behindLastWrittenSlot b_W_behindLastWrittenSlot 3 (some .int) :: gTb
theorem tc_W_behindLastWrittenSlot : Cond.code y_W_behindLastWrittenSlot b_W_behindLastWrittenSlot 3 (some .int) ∈ gTb := gm3 (List.mem_of_getElem? (i := 70) rfl) rfl
abbrev b_W_writeSlots : ByteArray := prog_9_method_8_code
def y_W_writeSlots : MethodName := ⟨R_W, "writeSlots", "(III)V"⟩
abbrev w_W_writeSlots : List Cond := Cond.code y_W_writeSlots b_W_writeSlots 6 none :: gTb
theorem tc_W_writeSlots : Cond.code y_W_writeSlots b_W_writeSlots 6 none ∈ gTb := gm3 (List.mem_of_getElem? (i := 66) rfl) rfl
abbrev b_W_writeCharacters : ByteArray := prog_9_method_9_code
def y_W_writeCharacters : MethodName := ⟨R_W, "writeCharacters", "(I)V"⟩
abbrev w_W_writeCharacters : List Cond := Cond.code y_W_writeCharacters b_W_writeCharacters 4 none :: gTb
theorem tc_W_writeCharacters : Cond.code y_W_writeCharacters b_W_writeCharacters 4 none ∈ gTb := gm3 (List.mem_of_getElem? (i := 58) rfl) rfl
abbrev b_W_writeAttribute : ByteArray := prog_9_method_10_code
def y_W_writeAttribute : MethodName := ⟨R_W, "writeAttribute", "(Ljava/lang/String;I)V"⟩
abbrev w_W_writeAttribute : List Cond := Cond.code y_W_writeAttribute b_W_writeAttribute 3 none :: gTb
theorem tc_W_writeAttribute : Cond.code y_W_writeAttribute b_W_writeAttribute 3 none ∈ gTb := gm3 (List.mem_of_getElem? (i := 32) rfl) rfl
abbrev b_W_writeNumber : ByteArray := prog_9_method_11_code
def y_W_writeNumber : MethodName := ⟨R_W, "writeNumber", "(I)V"⟩
abbrev w_W_writeNumber : List Cond := Cond.code y_W_writeNumber b_W_writeNumber 7 none :: gTb
theorem tc_W_writeNumber : Cond.code y_W_writeNumber b_W_writeNumber 7 none ∈ gTb := gm3 (List.mem_of_getElem? (i := 37) rfl) rfl
abbrev b_W_writeRow : ByteArray := prog_9_method_12_code
def y_W_writeRow : MethodName := ⟨R_W, "writeRow", "(Ljava/lang/String;)V"⟩
abbrev w_W_writeRow : List Cond := Cond.code y_W_writeRow b_W_writeRow 3 none :: gTb
theorem tc_W_writeRow : Cond.code y_W_writeRow b_W_writeRow 3 none ∈ gTb := gm2 (List.mem_of_getElem? (i := 205) rfl) rfl
abbrev b_O_init : ByteArray := prog_1_method_1_code
def y_O_init : MethodName := ⟨R_O, "<init>", "()V"⟩
abbrev w_O_init : List Cond := Cond.code y_O_init b_O_init 2 none :: gTb
theorem tc_O_init : Cond.code y_O_init b_O_init 2 none ∈ gTb := gm1 (List.mem_of_getElem? (i := 21) rfl) rfl
abbrev b_O_make : ByteArray := prog_1_method_2_code
def y_O_make : MethodName := ⟨R_O, "make", "(II)I"⟩
abbrev w_O_make : List Cond := Cond.code y_O_make b_O_make 3 (some .int) :: gTb
theorem tc_O_make : Cond.code y_O_make b_O_make 3 (some .int) ∈ gTb := gm2 (List.mem_of_getElem? (i := 50) rfl) rfl
abbrev b_O_type : ByteArray := prog_1_method_3_code
def y_O_type : MethodName := ⟨R_O, "type", "(IC)Z"⟩
abbrev w_O_type : List Cond := Cond.code y_O_type b_O_type 3 (some .boolean) :: gTb
theorem tc_O_type : Cond.code y_O_type b_O_type 3 (some .boolean) ∈ gTb := gm2 (List.mem_of_getElem? (i := 66) rfl) rfl
abbrev b_O_put : ByteArray := prog_1_method_4_code
def y_O_put : MethodName := ⟨R_O, "put", "(III)Z"⟩
abbrev w_O_put : List Cond := Cond.code y_O_put b_O_put 4 (some .boolean) :: gTb
theorem tc_O_put : Cond.code y_O_put b_O_put 4 (some .boolean) ∈ gTb := gm2 (List.mem_of_getElem? (i := 85) rfl) rfl
abbrev b_O_link : ByteArray := prog_1_method_5_code
def y_O_link : MethodName := ⟨R_O, "link", "(III)Z"⟩
abbrev w_O_link : List Cond := Cond.code y_O_link b_O_link 4 (some .boolean) :: gTb
theorem tc_O_link : Cond.code y_O_link b_O_link 4 (some .boolean) ∈ gTb := gm2 (List.mem_of_getElem? (i := 94) rfl) rfl
abbrev b_O_objects : ByteArray := prog_1_method_6_code
def y_O_objects : MethodName := ⟨R_O, "objects", "()I"⟩
abbrev w_O_objects : List Cond := Cond.code y_O_objects b_O_objects 1 (some .int) :: gTb
theorem tc_O_objects : Cond.code y_O_objects b_O_objects 1 (some .int) ∈ gTb := gm2 (List.mem_of_getElem? (i := 99) rfl) rfl
abbrev b_O_kind : ByteArray := prog_1_method_7_code
def y_O_kind : MethodName := ⟨R_O, "kind", "(I)I"⟩
abbrev w_O_kind : List Cond := Cond.code y_O_kind b_O_kind 2 (some .int) :: gTb
theorem tc_O_kind : Cond.code y_O_kind b_O_kind 2 (some .int) ∈ gTb := gm2 (List.mem_of_getElem? (i := 103) rfl) rfl
abbrev b_O_size : ByteArray := prog_1_method_8_code
def y_O_size : MethodName := ⟨R_O, "size", "(I)I"⟩
abbrev w_O_size : List Cond := Cond.code y_O_size b_O_size 2 (some .int) :: gTb
theorem tc_O_size : Cond.code y_O_size b_O_size 2 (some .int) ∈ gTb := gm2 (List.mem_of_getElem? (i := 107) rfl) rfl
abbrev b_O_holds : ByteArray := prog_1_method_9_code
def y_O_holds : MethodName := ⟨R_O, "holds", "(II)I"⟩
abbrev w_O_holds : List Cond := Cond.code y_O_holds b_O_holds 3 (some .int) :: gTb
theorem tc_O_holds : Cond.code y_O_holds b_O_holds 3 (some .int) ∈ gTb := gm2 (List.mem_of_getElem? (i := 111) rfl) rfl
abbrev b_O_value : ByteArray := prog_1_method_10_code
def y_O_value : MethodName := ⟨R_O, "value", "(II)I"⟩
abbrev w_O_value : List Cond := Cond.code y_O_value b_O_value 3 (some .int) :: gTb
theorem tc_O_value : Cond.code y_O_value b_O_value 3 (some .int) ∈ gTb := gm2 (List.mem_of_getElem? (i := 119) rfl) rfl
abbrev b_O_alike : ByteArray := prog_1_method_11_code
def y_O_alike : MethodName := ⟨R_O, "alike", "(II)Z"⟩
abbrev w_O_alike : List Cond := Cond.code y_O_alike b_O_alike 3 (some .boolean) :: gTb
theorem tc_O_alike : Cond.code y_O_alike b_O_alike 3 (some .boolean) ∈ gTb := gm2 (List.mem_of_getElem? (i := 131) rfl) rfl
abbrev b_O_shared : ByteArray := prog_1_method_12_code
def y_O_shared : MethodName := ⟨R_O, "shared", "(I)I"⟩
abbrev w_O_shared : List Cond := Cond.code y_O_shared b_O_shared 2 (some .int) :: gTb
theorem tc_O_shared : Cond.code y_O_shared b_O_shared 2 (some .int) ∈ gTb := gm2 (List.mem_of_getElem? (i := 166) rfl) rfl
abbrev b_O_encode : ByteArray := prog_1_method_13_code
def y_O_encode : MethodName := ⟨R_O, "encode", "(I)I"⟩
abbrev w_O_encode : List Cond := Cond.code y_O_encode b_O_encode 2 (some .int) :: gTb
theorem tc_O_encode : Cond.code y_O_encode b_O_encode 2 (some .int) ∈ gTb := gm2 (List.mem_of_getElem? (i := 194) rfl) rfl
abbrev b_O_decode : ByteArray := prog_1_method_14_code
def y_O_decode : MethodName := ⟨R_O, "decode", "()I"⟩
abbrev w_O_decode : List Cond := Cond.code y_O_decode b_O_decode 2 (some .int) :: gTb
theorem tc_O_decode : Cond.code y_O_decode b_O_decode 2 (some .int) ∈ gTb := gm3 (List.mem_of_getElem? (i := 83) rfl) rfl
abbrev b_O_clear : ByteArray := prog_1_method_15_code
def y_O_clear : MethodName := ⟨R_O, "clear", "()V"⟩
abbrev w_O_clear : List Cond := Cond.code y_O_clear b_O_clear 1 none :: gTb
theorem tc_O_clear : Cond.code y_O_clear b_O_clear 1 none ∈ gTb := gm4 (List.mem_of_getElem? (i := 41) rfl) rfl
abbrev b_O_understand : ByteArray := prog_1_method_16_code
def y_O_understand : MethodName := ⟨R_O, "understand", "(IZ)Z"⟩
abbrev w_O_understand : List Cond := Cond.code y_O_understand b_O_understand 3 (some .boolean) :: gTb
theorem tc_O_understand : Cond.code y_O_understand b_O_understand 3 (some .boolean) ∈ gTb := gm4 (List.mem_of_getElem? (i := 45) rfl) rfl
abbrev b_O_length : ByteArray := prog_1_method_17_code
def y_O_length : MethodName := ⟨R_O, "length", "()I"⟩
abbrev w_O_length : List Cond := Cond.code y_O_length b_O_length 1 (some .int) :: gTb
theorem tc_O_length : Cond.code y_O_length b_O_length 1 (some .int) ∈ gTb := gm4 (List.mem_of_getElem? (i := 49) rfl) rfl
abbrev b_O_charAt : ByteArray := prog_1_method_18_code
def y_O_charAt : MethodName := ⟨R_O, "charAt", "(I)I"⟩
abbrev w_O_charAt : List Cond := Cond.code y_O_charAt b_O_charAt 2 (some .int) :: gTb
theorem tc_O_charAt : Cond.code y_O_charAt b_O_charAt 2 (some .int) ∈ gTb := gm4 (List.mem_of_getElem? (i := 53) rfl) rfl
abbrev b_O_feed : ByteArray := prog_1_method_19_code
def y_O_feed : MethodName := ⟨R_O, "feed", "(C)Z"⟩
abbrev w_O_feed : List Cond := Cond.code y_O_feed b_O_feed 2 (some .boolean) :: gTb
theorem tc_O_feed : Cond.code y_O_feed b_O_feed 2 (some .boolean) ∈ gTb := gm4 (List.mem_of_getElem? (i := 58) rfl) rfl
abbrev b_O_alter : ByteArray := prog_1_method_20_code
def y_O_alter : MethodName := ⟨R_O, "alter", "(IC)Z"⟩
abbrev w_O_alter : List Cond := Cond.code y_O_alter b_O_alter 3 (some .boolean) :: gTb
theorem tc_O_alter : Cond.code y_O_alter b_O_alter 3 (some .boolean) ∈ gTb := gm4 (List.mem_of_getElem? (i := 63) rfl) rfl
abbrev b_O_cut : ByteArray := prog_1_method_21_code
def y_O_cut : MethodName := ⟨R_O, "cut", "(I)Z"⟩
abbrev w_O_cut : List Cond := Cond.code y_O_cut b_O_cut 2 (some .boolean) :: gTb
theorem tc_O_cut : Cond.code y_O_cut b_O_cut 2 (some .boolean) ∈ gTb := gm4 (List.mem_of_getElem? (i := 67) rfl) rfl
abbrev b_O_isPrintable : ByteArray := prog_1_method_22_code
def y_O_isPrintable : MethodName := ⟨R_O, "isPrintable", "(I)Z"⟩
abbrev w_O_isPrintable : List Cond := Cond.code y_O_isPrintable b_O_isPrintable 1 (some .boolean) :: gTb
theorem tc_O_isPrintable : Cond.code y_O_isPrintable b_O_isPrintable 1 (some .boolean) ∈ gTb := gm2 (List.mem_of_getElem? (i := 77) rfl) rfl
abbrev b_O_isDigit : ByteArray := prog_1_method_23_code
def y_O_isDigit : MethodName := ⟨R_O, "isDigit", "(I)Z"⟩
abbrev w_O_isDigit : List Cond := Cond.code y_O_isDigit b_O_isDigit 1 (some .boolean) :: gTb
theorem tc_O_isDigit : Cond.code y_O_isDigit b_O_isDigit 1 (some .boolean) ∈ gTb := gm3 (List.mem_of_getElem? (i := 148) rfl) rfl
abbrev b_O_isLetter : ByteArray := prog_1_method_24_code
def y_O_isLetter : MethodName := ⟨R_O, "isLetter", "(I)Z"⟩
abbrev w_O_isLetter : List Cond := Cond.code y_O_isLetter b_O_isLetter 1 (some .boolean) :: gTb
theorem tc_O_isLetter : Cond.code y_O_isLetter b_O_isLetter 1 (some .boolean) ∈ gTb := gm3 (List.mem_of_getElem? (i := 110) rfl) rfl
abbrev b_M_init : ByteArray := prog_11_method_1_code
def y_M_init : MethodName := ⟨R_M, "<init>", "()V"⟩
abbrev w_M_init : List Cond := Cond.code y_M_init b_M_init 1 none :: gTb
theorem tc_M_init : Cond.code y_M_init b_M_init 1 none ∈ gTb := gm4 (List.mem_of_getElem? (i := 72) rfl) rfl
abbrev b_M_object : ByteArray := prog_11_method_2_code
def y_M_object : MethodName := ⟨R_M, "object", "(I)Z"⟩
abbrev w_M_object : List Cond := Cond.code y_M_object b_M_object 2 (some .boolean) :: gTb
theorem tc_M_object : Cond.code y_M_object b_M_object 2 (some .boolean) ∈ gTb := gm4 (List.mem_of_getElem? (i := 191) rfl) rfl
abbrev b_M_slotThere : ByteArray := prog_11_method_3_code
def y_M_slotThere : MethodName := ⟨R_M, "slotThere", "(II)Z"⟩
abbrev w_M_slotThere : List Cond := Cond.code y_M_slotThere b_M_slotThere 3 (some .boolean) :: gTb
theorem tc_M_slotThere : Cond.code y_M_slotThere b_M_slotThere 3 (some .boolean) ∈ gTb := gm4 (List.mem_of_getElem? (i := 199) rfl) rfl
abbrev b_M_make : ByteArray := prog_11_method_4_code
def y_M_make : MethodName := ⟨R_M, "make", "(II)I"⟩
abbrev w_M_make : List Cond := Cond.code y_M_make b_M_make 4 (some .int) :: gTb
theorem tc_M_make : Cond.code y_M_make b_M_make 4 (some .int) ∈ gTb := gm4 (List.mem_of_getElem? (i := 183) rfl) rfl
abbrev b_M_type : ByteArray := prog_11_method_5_code
def y_M_type : MethodName := ⟨R_M, "type", "(IC)Z"⟩
abbrev w_M_type : List Cond := Cond.code y_M_type b_M_type 3 (some .boolean) :: gTb
theorem tc_M_type : Cond.code y_M_type b_M_type 3 (some .boolean) ∈ gTb := gm4 (List.mem_of_getElem? (i := 187) rfl) rfl
abbrev b_M_put : ByteArray := prog_11_method_6_code
def y_M_put : MethodName := ⟨R_M, "put", "(III)Z"⟩
abbrev w_M_put : List Cond := Cond.code y_M_put b_M_put 4 (some .boolean) :: gTb
theorem tc_M_put : Cond.code y_M_put b_M_put 4 (some .boolean) ∈ gTb := gm4 (List.mem_of_getElem? (i := 195) rfl) rfl
abbrev b_M_link : ByteArray := prog_11_method_7_code
def y_M_link : MethodName := ⟨R_M, "link", "(III)Z"⟩
abbrev w_M_link : List Cond := Cond.code y_M_link b_M_link 4 (some .boolean) :: gTb
theorem tc_M_link : Cond.code y_M_link b_M_link 4 (some .boolean) ∈ gTb := gm4 (List.mem_of_getElem? (i := 203) rfl) rfl
abbrev b_M_objects : ByteArray := prog_11_method_8_code
def y_M_objects : MethodName := ⟨R_M, "objects", "()I"⟩
abbrev w_M_objects : List Cond := Cond.code y_M_objects b_M_objects 1 (some .int) :: gTb
theorem tc_M_objects : Cond.code y_M_objects b_M_objects 1 (some .int) ∈ gTb := gm4 (List.mem_of_getElem? (i := 207) rfl) rfl
abbrev b_M_kind : ByteArray := prog_11_method_9_code
def y_M_kind : MethodName := ⟨R_M, "kind", "(I)I"⟩
abbrev w_M_kind : List Cond := Cond.code y_M_kind b_M_kind 2 (some .int) :: gTb
theorem tc_M_kind : Cond.code y_M_kind b_M_kind 2 (some .int) ∈ gTb := gm4 (List.mem_of_getElem? (i := 211) rfl) rfl
abbrev b_M_size : ByteArray := prog_11_method_10_code
def y_M_size : MethodName := ⟨R_M, "size", "(I)I"⟩
abbrev w_M_size : List Cond := Cond.code y_M_size b_M_size 2 (some .int) :: gTb
theorem tc_M_size : Cond.code y_M_size b_M_size 2 (some .int) ∈ gTb := gm4 (List.mem_of_getElem? (i := 215) rfl) rfl
abbrev b_M_holds : ByteArray := prog_11_method_11_code
def y_M_holds : MethodName := ⟨R_M, "holds", "(II)I"⟩
abbrev w_M_holds : List Cond := Cond.code y_M_holds b_M_holds 3 (some .int) :: gTb
theorem tc_M_holds : Cond.code y_M_holds b_M_holds 3 (some .int) ∈ gTb := gm4 (List.mem_of_getElem? (i := 219) rfl) rfl
abbrev b_M_value : ByteArray := prog_11_method_12_code
def y_M_value : MethodName := ⟨R_M, "value", "(II)I"⟩
abbrev w_M_value : List Cond := Cond.code y_M_value b_M_value 3 (some .int) :: gTb
theorem tc_M_value : Cond.code y_M_value b_M_value 3 (some .int) ∈ gTb := gm4 (List.mem_of_getElem? (i := 223) rfl) rfl
abbrev b_M_clear : ByteArray := prog_11_method_13_code
def y_M_clear : MethodName := ⟨R_M, "clear", "()V"⟩
abbrev w_M_clear : List Cond := Cond.code y_M_clear b_M_clear 1 none :: gTb
theorem tc_M_clear : Cond.code y_M_clear b_M_clear 1 none ∈ gTb := gm4 (List.mem_of_getElem? (i := 227) rfl) rfl
abbrev b_M_sameOutside : ByteArray := prog_11_method_14_code
def y_M_sameOutside : MethodName := ⟨R_M, "sameOutside", "(II)Z"⟩
abbrev w_M_sameOutside : List Cond := Cond.code y_M_sameOutside b_M_sameOutside 4 (some .boolean) :: gTb
theorem tc_M_sameOutside : Cond.code y_M_sameOutside b_M_sameOutside 4 (some .boolean) ∈ gTb := gm4 (List.mem_of_getElem? (i := 235) rfl) rfl
abbrev b_M_alike : ByteArray := prog_11_method_15_code
def y_M_alike : MethodName := ⟨R_M, "alike", "(II)Z"⟩
abbrev w_M_alike : List Cond := Cond.code y_M_alike b_M_alike 9 (some .boolean) :: gTb
theorem tc_M_alike : Cond.code y_M_alike b_M_alike 9 (some .boolean) ∈ gTb := gm4 (List.mem_of_getElem? (i := 231) rfl) rfl
abbrev b_M_mark : ByteArray := prog_11_method_16_code
def y_M_mark : MethodName := ⟨R_M, "mark", "(I)V"⟩
abbrev w_M_mark : List Cond := Cond.code y_M_mark b_M_mark 4 none :: gTb
theorem tc_M_mark : Cond.code y_M_mark b_M_mark 4 none ∈ gTb := gm5 (List.mem_of_getElem? (i := 3) rfl) rfl
abbrev b_M_shared : ByteArray := prog_11_method_17_code
def y_M_shared : MethodName := ⟨R_M, "shared", "(I)I"⟩
abbrev w_M_shared : List Cond := Cond.code y_M_shared b_M_shared 4 (some .int) :: gTb
theorem tc_M_shared : Cond.code y_M_shared b_M_shared 4 (some .int) ∈ gTb := gm4 (List.mem_of_getElem? (i := 239) rfl) rfl
abbrev b_M_out : ByteArray := prog_11_method_18_code
def y_M_out : MethodName := ⟨R_M, "out", "(IIII)V"⟩
abbrev w_M_out : List Cond := Cond.code y_M_out b_M_out 7 none :: gTb
theorem tc_M_out : Cond.code y_M_out b_M_out 7 none ∈ gTb := gm5 (List.mem_of_getElem? (i := 12) rfl) rfl
abbrev b_M_number : ByteArray := prog_11_method_19_code
def y_M_number : MethodName := ⟨R_M, "number", "(J)V"⟩
abbrev w_M_number : List Cond := Cond.code y_M_number b_M_number 7 none :: gTb
theorem tc_M_number : Cond.code y_M_number b_M_number 7 none ∈ gTb := gm5 (List.mem_of_getElem? (i := 28) rfl) rfl
abbrev b_M_attribute : ByteArray := prog_11_method_20_code
def y_M_attribute : MethodName := ⟨R_M, "attribute", "(III)V"⟩
abbrev w_M_attribute : List Cond := Cond.code y_M_attribute b_M_attribute 4 none :: gTb
theorem tc_M_attribute : Cond.code y_M_attribute b_M_attribute 4 none ∈ gTb := gm5 (List.mem_of_getElem? (i := 24) rfl) rfl
abbrev b_M_reference : ByteArray := prog_11_method_21_code
def y_M_reference : MethodName := ⟨R_M, "reference", "(I)V"⟩
abbrev w_M_reference : List Cond := Cond.code y_M_reference b_M_reference 2 none :: gTb
theorem tc_M_reference : Cond.code y_M_reference b_M_reference 2 none ∈ gTb := gm5 (List.mem_of_getElem? (i := 16) rfl) rfl
abbrev b_M_element : ByteArray := prog_11_method_22_code
def y_M_element : MethodName := ⟨R_M, "element", "(I)V"⟩
abbrev w_M_element : List Cond := Cond.code y_M_element b_M_element 6 none :: gTb
theorem tc_M_element : Cond.code y_M_element b_M_element 6 none ∈ gTb := gm5 (List.mem_of_getElem? (i := 20) rfl) rfl
abbrev b_M_character : ByteArray := prog_11_method_23_code
def y_M_character : MethodName := ⟨R_M, "character", "(I)V"⟩
abbrev w_M_character : List Cond := Cond.code y_M_character b_M_character 2 none :: gTb
theorem tc_M_character : Cond.code y_M_character b_M_character 2 none ∈ gTb := gm5 (List.mem_of_getElem? (i := 34) rfl) rfl
abbrev b_M_work : ByteArray := prog_11_method_24_code
def y_M_work : MethodName := ⟨R_M, "work", "()V"⟩
abbrev w_M_work : List Cond := Cond.code y_M_work b_M_work 3 none :: gTb
theorem tc_M_work : Cond.code y_M_work b_M_work 3 none ∈ gTb := gm5 (List.mem_of_getElem? (i := 38) rfl) rfl
abbrev b_M_encode : ByteArray := prog_11_method_25_code
def y_M_encode : MethodName := ⟨R_M, "encode", "(I)I"⟩
abbrev w_M_encode : List Cond := Cond.code y_M_encode b_M_encode 3 (some .int) :: gTb
theorem tc_M_encode : Cond.code y_M_encode b_M_encode 3 (some .int) ∈ gTb := gm5 (List.mem_of_getElem? (i := 8) rfl) rfl
abbrev b_M_length : ByteArray := prog_11_method_26_code
def y_M_length : MethodName := ⟨R_M, "length", "()I"⟩
abbrev w_M_length : List Cond := Cond.code y_M_length b_M_length 1 (some .int) :: gTb
theorem tc_M_length : Cond.code y_M_length b_M_length 1 (some .int) ∈ gTb := gm5 (List.mem_of_getElem? (i := 42) rfl) rfl
abbrev b_M_charAt : ByteArray := prog_11_method_27_code
def y_M_charAt : MethodName := ⟨R_M, "charAt", "(I)I"⟩
abbrev w_M_charAt : List Cond := Cond.code y_M_charAt b_M_charAt 2 (some .int) :: gTb
theorem tc_M_charAt : Cond.code y_M_charAt b_M_charAt 2 (some .int) ∈ gTb := gm5 (List.mem_of_getElem? (i := 46) rfl) rfl
abbrev b_M_feed : ByteArray := prog_11_method_28_code
def y_M_feed : MethodName := ⟨R_M, "feed", "(C)Z"⟩
abbrev w_M_feed : List Cond := Cond.code y_M_feed b_M_feed 2 (some .boolean) :: gTb
theorem tc_M_feed : Cond.code y_M_feed b_M_feed 2 (some .boolean) ∈ gTb := gm5 (List.mem_of_getElem? (i := 50) rfl) rfl
abbrev b_M_alter : ByteArray := prog_11_method_29_code
def y_M_alter : MethodName := ⟨R_M, "alter", "(IC)Z"⟩
abbrev w_M_alter : List Cond := Cond.code y_M_alter b_M_alter 3 (some .boolean) :: gTb
theorem tc_M_alter : Cond.code y_M_alter b_M_alter 3 (some .boolean) ∈ gTb := gm5 (List.mem_of_getElem? (i := 54) rfl) rfl
abbrev b_M_cut : ByteArray := prog_11_method_30_code
def y_M_cut : MethodName := ⟨R_M, "cut", "(I)Z"⟩
abbrev w_M_cut : List Cond := Cond.code y_M_cut b_M_cut 2 (some .boolean) :: gTb
theorem tc_M_cut : Cond.code y_M_cut b_M_cut 2 (some .boolean) ∈ gTb := gm5 (List.mem_of_getElem? (i := 58) rfl) rfl
abbrev b_M_understand : ByteArray := prog_11_method_31_code
def y_M_understand : MethodName := ⟨R_M, "understand", "(IZ)Z"⟩
abbrev w_M_understand : List Cond := Cond.code y_M_understand b_M_understand 3 (some .boolean) :: gTb
theorem tc_M_understand : Cond.code y_M_understand b_M_understand 3 (some .boolean) ∈ gTb := gm5 (List.mem_of_getElem? (i := 62) rfl) rfl
abbrev b_M_charOr0 : ByteArray := prog_11_method_32_code
def y_M_charOr0 : MethodName := ⟨R_M, "charOr0", "(I)I"⟩
abbrev w_M_charOr0 : List Cond := Cond.code y_M_charOr0 b_M_charOr0 2 (some .int) :: gTb
theorem tc_M_charOr0 : Cond.code y_M_charOr0 b_M_charOr0 2 (some .int) ∈ gTb := gm5 (List.mem_of_getElem? (i := 74) rfl) rfl
abbrev b_M_nameAt : ByteArray := prog_11_method_33_code
def y_M_nameAt : MethodName := ⟨R_M, "nameAt", "(I)I"⟩
abbrev w_M_nameAt : List Cond := Cond.code y_M_nameAt b_M_nameAt 4 (some .int) :: gTb
theorem tc_M_nameAt : Cond.code y_M_nameAt b_M_nameAt 4 (some .int) ∈ gTb := gm5 (List.mem_of_getElem? (i := 82) rfl) rfl
abbrev b_M_wellFormed : ByteArray := prog_11_method_34_code
def y_M_wellFormed : MethodName := ⟨R_M, "wellFormed", "()Z"⟩
abbrev w_M_wellFormed : List Cond := Cond.code y_M_wellFormed b_M_wellFormed 3 (some .boolean) :: gTb
theorem tc_M_wellFormed : Cond.code y_M_wellFormed b_M_wellFormed 3 (some .boolean) ∈ gTb := gm5 (List.mem_of_getElem? (i := 70) rfl) rfl
abbrev b_M_end : ByteArray := prog_11_method_35_code
def y_M_end : MethodName := ⟨R_M, "end", "()Z"⟩
abbrev w_M_end : List Cond := Cond.code y_M_end b_M_end 1 (some .boolean) :: gTb
theorem tc_M_end : Cond.code y_M_end b_M_end 1 (some .boolean) ∈ gTb := gm5 (List.mem_of_getElem? (i := 78) rfl) rfl
abbrev b_M_start : ByteArray := prog_11_method_36_code
def y_M_start : MethodName := ⟨R_M, "start", "()Z"⟩
abbrev w_M_start : List Cond := Cond.code y_M_start b_M_start 7 (some .boolean) :: gTb
theorem tc_M_start : Cond.code y_M_start b_M_start 7 (some .boolean) ∈ gTb := gm5 (List.mem_of_getElem? (i := 86) rfl) rfl
abbrev b_M_attributeAt : ByteArray := prog_11_method_37_code
def y_M_attributeAt : MethodName := ⟨R_M, "attributeAt", "(II)I"⟩
abbrev w_M_attributeAt : List Cond := Cond.code y_M_attributeAt b_M_attributeAt 6 (some .int) :: gTb
theorem tc_M_attributeAt : Cond.code y_M_attributeAt b_M_attributeAt 6 (some .int) ∈ gTb := gm5 (List.mem_of_getElem? (i := 90) rfl) rfl
abbrev b_M_content : ByteArray := prog_11_method_38_code
def y_M_content : MethodName := ⟨R_M, "content", "()Z"⟩
abbrev w_M_content : List Cond := Cond.code y_M_content b_M_content 4 (some .boolean) :: gTb
theorem tc_M_content : Cond.code y_M_content b_M_content 4 (some .boolean) ∈ gTb := gm5 (List.mem_of_getElem? (i := 98) rfl) rfl
abbrev b_M_attr : ByteArray := prog_11_method_39_code
def y_M_attr : MethodName := ⟨R_M, "attr", "(II)I"⟩
abbrev w_M_attr : List Cond := Cond.code y_M_attr b_M_attr 4 (some .int) :: gTb
theorem tc_M_attr : Cond.code y_M_attr b_M_attr 4 (some .int) ∈ gTb := gm5 (List.mem_of_getElem? (i := 94) rfl) rfl
abbrev b_M_countOf : ByteArray := prog_11_method_40_code
def y_M_countOf : MethodName := ⟨R_M, "countOf", "(I)I"⟩
abbrev w_M_countOf : List Cond := Cond.code y_M_countOf b_M_countOf 5 (some .int) :: gTb
theorem tc_M_countOf : Cond.code y_M_countOf b_M_countOf 5 (some .int) ∈ gTb := gm5 (List.mem_of_getElem? (i := 114) rfl) rfl
abbrev b_M_countIn : ByteArray := prog_11_method_41_code
def y_M_countIn : MethodName := ⟨R_M, "countIn", "(II)I"⟩
abbrev w_M_countIn : List Cond := Cond.code y_M_countIn b_M_countIn 4 (some .int) :: gTb
theorem tc_M_countIn : Cond.code y_M_countIn b_M_countIn 4 (some .int) ∈ gTb := gm5 (List.mem_of_getElem? (i := 110) rfl) rfl
abbrev b_M_isOne : ByteArray := prog_11_method_42_code
def y_M_isOne : MethodName := ⟨R_M, "isOne", "(II)Z"⟩
abbrev w_M_isOne : List Cond := Cond.code y_M_isOne b_M_isOne 4 (some .boolean) :: gTb
theorem tc_M_isOne : Cond.code y_M_isOne b_M_isOne 4 (some .boolean) ∈ gTb := gm5 (List.mem_of_getElem? (i := 102) rfl) rfl
abbrev b_M_numberOf : ByteArray := prog_11_method_43_code
def y_M_numberOf : MethodName := ⟨R_M, "numberOf", "(I)J"⟩
abbrev w_M_numberOf : List Cond := Cond.code y_M_numberOf b_M_numberOf 8 (some .long) :: gTb
theorem tc_M_numberOf : Cond.code y_M_numberOf b_M_numberOf 8 (some .long) ∈ gTb := gm5 (List.mem_of_getElem? (i := 138) rfl) rfl
abbrev b_M_isObject : ByteArray := prog_11_method_44_code
def y_M_isObject : MethodName := ⟨R_M, "isObject", "(I)Z"⟩
abbrev w_M_isObject : List Cond := Cond.code y_M_isObject b_M_isObject 2 (some .boolean) :: gTb
theorem tc_M_isObject : Cond.code y_M_isObject b_M_isObject 2 (some .boolean) ∈ gTb := gm5 (List.mem_of_getElem? (i := 122) rfl) rfl
abbrev b_M_must : ByteArray := prog_11_method_45_code
def y_M_must : MethodName := ⟨R_M, "must", "()Z"⟩
abbrev w_M_must : List Cond := Cond.code y_M_must b_M_must 3 (some .boolean) :: gTb
theorem tc_M_must : Cond.code y_M_must b_M_must 3 (some .boolean) ∈ gTb := gm5 (List.mem_of_getElem? (i := 106) rfl) rfl
abbrev b_M_body : ByteArray := prog_11_method_46_code
def y_M_body : MethodName := ⟨R_M, "body", "()I"⟩
abbrev w_M_body : List Cond := Cond.code y_M_body b_M_body 4 (some .int) :: gTb
theorem tc_M_body : Cond.code y_M_body b_M_body 4 (some .int) ∈ gTb := gm5 (List.mem_of_getElem? (i := 118) rfl) rfl
abbrev b_M_mayStand : ByteArray := prog_11_method_47_code
def y_M_mayStand : MethodName := ⟨R_M, "mayStand", "(II)Z"⟩
abbrev w_M_mayStand : List Cond := Cond.code y_M_mayStand b_M_mayStand 3 (some .boolean) :: gTb
theorem tc_M_mayStand : Cond.code y_M_mayStand b_M_mayStand 3 (some .boolean) ∈ gTb := gm5 (List.mem_of_getElem? (i := 134) rfl) rfl
abbrev b_M_fits : ByteArray := prog_11_method_48_code
def y_M_fits : MethodName := ⟨R_M, "fits", "(II)Z"⟩
abbrev w_M_fits : List Cond := Cond.code y_M_fits b_M_fits 6 (some .boolean) :: gTb
theorem tc_M_fits : Cond.code y_M_fits b_M_fits 6 (some .boolean) ∈ gTb := gm5 (List.mem_of_getElem? (i := 130) rfl) rfl
abbrev b_M_slots : ByteArray := prog_11_method_49_code
def y_M_slots : MethodName := ⟨R_M, "slots", "(I)Z"⟩
abbrev w_M_slots : List Cond := Cond.code y_M_slots b_M_slots 7 (some .boolean) :: gTb
theorem tc_M_slots : Cond.code y_M_slots b_M_slots 7 (some .boolean) ∈ gTb := gm5 (List.mem_of_getElem? (i := 145) rfl) rfl
abbrev b_M_withId : ByteArray := prog_11_method_50_code
def y_M_withId : MethodName := ⟨R_M, "withId", "(III)I"⟩
abbrev w_M_withId : List Cond := Cond.code y_M_withId b_M_withId 5 (some .int) :: gTb
theorem tc_M_withId : Cond.code y_M_withId b_M_withId 5 (some .int) ∈ gTb := gm5 (List.mem_of_getElem? (i := 149) rfl) rfl
abbrev b_M_lawful : ByteArray := prog_11_method_51_code
def y_M_lawful : MethodName := ⟨R_M, "lawful", "(I)Z"⟩
abbrev w_M_lawful : List Cond := Cond.code y_M_lawful b_M_lawful 5 (some .boolean) :: gTb
theorem tc_M_lawful : Cond.code y_M_lawful b_M_lawful 5 (some .boolean) ∈ gTb := gm5 (List.mem_of_getElem? (i := 126) rfl) rfl
abbrev b_M_decode : ByteArray := prog_11_method_52_code
def y_M_decode : MethodName := ⟨R_M, "decode", "()I"⟩
abbrev w_M_decode : List Cond := Cond.code y_M_decode b_M_decode 4 (some .int) :: gTb
theorem tc_M_decode : Cond.code y_M_decode b_M_decode 4 (some .int) ∈ gTb := gm5 (List.mem_of_getElem? (i := 66) rfl) rfl
abbrev b_M_target : ByteArray := prog_11_method_53_code
def y_M_target : MethodName := ⟨R_M, "target", "(II)I"⟩
abbrev w_M_target : List Cond := Cond.code y_M_target b_M_target 3 (some .int) :: gTb
theorem tc_M_target : Cond.code y_M_target b_M_target 3 (some .int) ∈ gTb := gm5 (List.mem_of_getElem? (i := 156) rfl) rfl
theorem tc_objectInit : Cond.code objectInit ⟨#[0xb1]⟩ 1 none ∈ gTb := gm1 (List.mem_of_getElem? (i := 24) rfl) rfl
def gNs : List (String × Nat × MethodName × String) := [(R_O, 9, y_G_init, "GraphPages"), (R_O, 18, y_P_init, "GraphPages"), (R_O, 54, y_E_init, "GraphPages"), (R_F, 76, y_O_isLetter, "GraphPages"), (R_F, 126, y_O_isDigit, "GraphPages"), (R_F, 129, y_O_isPrintable, "GraphPages"), (R_H, 187, y_O_isDigit, "GraphPages")]
theorem gNs_in : ∀ q ∈ gNs, Cond.methodLinkNest q.1 q.2.1 q.2.2.1 q.2.2.2 ∈ lw_tbl := by decide +kernel
theorem gCl_in : ∀ q ∈ vwCl, (∀ w ∈ u_ws q.1 q.2.1 q.2.2, w ∈ gTb) ∧ Cond.instantiable q.1 q.2.2 ∈ gTb := by decide +kernel
abbrev b_L_law : ByteArray := code
end
section
theorem tb_0 : Cond.fieldLink R_E 46 "GraphPages$Elements" "count" "I" ∈ gTb := gm1 (List.mem_of_getElem? (i := 151) rfl) rfl
theorem tb_1 : Cond.fieldLink R_E 50 "GraphPages$Elements" "attributeCount" "I" ∈ gTb := gm1 (List.mem_of_getElem? (i := 170) rfl) rfl
theorem tb_2 : Cond.fieldLink R_E 53 "GraphPages$Elements" "textCount" "I" ∈ gTb := gm1 (List.mem_of_getElem? (i := 177) rfl) rfl
theorem tb_3 : Cond.fieldLink R_E 11 "GraphPages$Elements" "names" "[I" ∈ gTb := gm1 (List.mem_of_getElem? (i := 154) rfl) rfl
theorem tb_4 : Cond.fieldLink R_E 15 "GraphPages$Elements" "parents" "[I" ∈ gTb := gm1 (List.mem_of_getElem? (i := 157) rfl) rfl
theorem tb_5 : Cond.fieldLink R_E 18 "GraphPages$Elements" "children" "[I" ∈ gTb := gm1 (List.mem_of_getElem? (i := 160) rfl) rfl
theorem tb_6 : Cond.fieldLink R_E 21 "GraphPages$Elements" "attributeStarts" "[I" ∈ gTb := gm1 (List.mem_of_getElem? (i := 162) rfl) rfl
theorem tb_7 : Cond.fieldLink R_E 24 "GraphPages$Elements" "attributeCounts" "[I" ∈ gTb := gm1 (List.mem_of_getElem? (i := 164) rfl) rfl
theorem tb_8 : Cond.fieldLink R_E 27 "GraphPages$Elements" "textStarts" "[I" ∈ gTb := gm1 (List.mem_of_getElem? (i := 166) rfl) rfl
theorem tb_9 : Cond.fieldLink R_E 30 "GraphPages$Elements" "textCounts" "[I" ∈ gTb := gm1 (List.mem_of_getElem? (i := 168) rfl) rfl
theorem tb_10 : Cond.fieldLink R_E 33 "GraphPages$Elements" "attributeNames" "[I" ∈ gTb := gm1 (List.mem_of_getElem? (i := 171) rfl) rfl
theorem tb_11 : Cond.fieldLink R_E 36 "GraphPages$Elements" "valueStarts" "[I" ∈ gTb := gm1 (List.mem_of_getElem? (i := 173) rfl) rfl
theorem tb_12 : Cond.fieldLink R_E 39 "GraphPages$Elements" "valueCounts" "[I" ∈ gTb := gm1 (List.mem_of_getElem? (i := 175) rfl) rfl
theorem tb_13 : Cond.fieldLink R_E 42 "GraphPages$Elements" "text" "[C" ∈ gTb := gm1 (List.mem_of_getElem? (i := 178) rfl) rfl
theorem tb_14 : Cond.fieldLink R_P 15 "GraphPages$Page" "end" "I" ∈ gTb := gm1 (List.mem_of_getElem? (i := 67) rfl) rfl
theorem tb_15 : Cond.fieldLink R_P 9 "GraphPages$Page" "characters" "[C" ∈ gTb := gm1 (List.mem_of_getElem? (i := 71) rfl) rfl
theorem tb_16 : Cond.methodLink R_F 46 y_P_codeAt ∈ gTb := gm3 (List.mem_of_getElem? (i := 96) rfl) rfl
theorem tb_17 : Cond.instanceMethod y_P_codeAt ∈ gTb := gm3 (List.mem_of_getElem? (i := 97) rfl) rfl
theorem tb_18 : Cond.selects R_P y_P_codeAt y_P_codeAt ∈ gTb := gm3 (List.mem_of_getElem? (i := 98) rfl) rfl
theorem tb_19 : Cond.initialized R_P ∈ gTb := gm1 (List.mem_of_getElem? (i := 3) rfl) rfl
theorem tb_20 : Cond.initialized R_O ∈ gTb := gm1 (List.mem_of_getElem? (i := 1) rfl) rfl
theorem tb_21 : Cond.static y_O_isLetter ∈ gTb := gm3 (List.mem_of_getElem? (i := 109) rfl) rfl
theorem tb_22 : Cond.fieldLink R_F 9 "GraphPages$FormReader" "page" "LGraphPages$Page;" ∈ gTb := gm1 (List.mem_of_getElem? (i := 215) rfl) rfl
theorem tb_23 : Cond.fieldLink R_F 24 "GraphPages$FormReader" "place" "I" ∈ gTb := gm1 (List.mem_of_getElem? (i := 217) rfl) rfl
theorem tb_24 : Cond.fieldLink R_F 34 "GraphPages$Page" "end" "I" ∈ gTb := gm1 (List.mem_of_getElem? (i := 69) rfl) rfl
theorem tb_25 : Cond.methodLink R_F 66 y_F_readName ∈ gTb := gm3 (List.mem_of_getElem? (i := 104) rfl) rfl
theorem tb_26 : Cond.instanceMethod y_F_readName ∈ gTb := gm3 (List.mem_of_getElem? (i := 106) rfl) rfl
theorem tb_27 : Cond.selects R_F y_F_readName y_F_readName ∈ gTb := gmS (by decide +kernel) rfl
theorem tb_28 : Cond.initialized R_F ∈ gTb := gm1 (List.mem_of_getElem? (i := 8) rfl) rfl
theorem tb_29 : Cond.methodLink R_F 87 y_E_findAttribute ∈ gTb := gm3 (List.mem_of_getElem? (i := 123) rfl) rfl
theorem tb_30 : Cond.instanceMethod y_E_findAttribute ∈ gTb := gm3 (List.mem_of_getElem? (i := 124) rfl) rfl
theorem tb_31 : Cond.selects R_E y_E_findAttribute y_E_findAttribute ∈ gTb := gm3 (List.mem_of_getElem? (i := 125) rfl) rfl
theorem tb_32 : Cond.initialized R_E ∈ gTb := gm1 (List.mem_of_getElem? (i := 7) rfl) rfl
theorem tb_33 : Cond.methodLink R_F 83 y_F_skip ∈ gTb := gm3 (List.mem_of_getElem? (i := 127) rfl) rfl
theorem tb_34 : Cond.instanceMethod y_F_skip ∈ gTb := gm3 (List.mem_of_getElem? (i := 129) rfl) rfl
theorem tb_35 : Cond.selects R_F y_F_skip y_F_skip ∈ gTb := gmS (by decide +kernel) rfl
theorem tb_36 : Cond.methodLink R_F 91 y_F_mayStandInValue ∈ gTb := gm3 (List.mem_of_getElem? (i := 131) rfl) rfl
theorem tb_37 : Cond.static y_F_mayStandInValue ∈ gTb := gm3 (List.mem_of_getElem? (i := 132) rfl) rfl
theorem tb_38 : Cond.methodLink R_F 94 y_E_addAttribute ∈ gTb := gm3 (List.mem_of_getElem? (i := 134) rfl) rfl
theorem tb_39 : Cond.instanceMethod y_E_addAttribute ∈ gTb := gm3 (List.mem_of_getElem? (i := 135) rfl) rfl
theorem tb_40 : Cond.selects R_E y_E_addAttribute y_E_addAttribute ∈ gTb := gm3 (List.mem_of_getElem? (i := 136) rfl) rfl
theorem tb_41 : Cond.fieldLink R_F 15 "GraphPages$FormReader" "elements" "LGraphPages$Elements;" ∈ gTb := gm1 (List.mem_of_getElem? (i := 216) rfl) rfl
theorem tb_42 : Cond.methodLink R_F 70 y_E_addElement ∈ gTb := gm3 (List.mem_of_getElem? (i := 111) rfl) rfl
theorem tb_43 : Cond.instanceMethod y_E_addElement ∈ gTb := gm3 (List.mem_of_getElem? (i := 112) rfl) rfl
theorem tb_44 : Cond.selects R_E y_E_addElement y_E_addElement ∈ gTb := gm3 (List.mem_of_getElem? (i := 113) rfl) rfl
theorem tb_45 : Cond.methodLink R_F 73 y_F_skipSpaces ∈ gTb := gm3 (List.mem_of_getElem? (i := 115) rfl) rfl
theorem tb_46 : Cond.instanceMethod y_F_skipSpaces ∈ gTb := gm3 (List.mem_of_getElem? (i := 117) rfl) rfl
theorem tb_47 : Cond.selects R_F y_F_skipSpaces y_F_skipSpaces ∈ gTb := gmS (by decide +kernel) rfl
theorem tb_48 : Cond.methodLink R_F 80 y_F_readAttribute ∈ gTb := gm3 (List.mem_of_getElem? (i := 119) rfl) rfl
theorem tb_49 : Cond.instanceMethod y_F_readAttribute ∈ gTb := gm3 (List.mem_of_getElem? (i := 121) rfl) rfl
theorem tb_50 : Cond.selects R_F y_F_readAttribute y_F_readAttribute ∈ gTb := gmS (by decide +kernel) rfl
theorem tb_51 : Cond.fieldLink R_F 31 "GraphPages$FormReader" "depth" "I" ∈ gTb := gm1 (List.mem_of_getElem? (i := 219) rfl) rfl
theorem tb_52 : Cond.fieldLink R_F 28 "GraphPages$FormReader" "open" "I" ∈ gTb := gm1 (List.mem_of_getElem? (i := 218) rfl) rfl
theorem tb_53 : Cond.fieldLink R_F 43 "GraphPages$Elements" "count" "I" ∈ gTb := gm1 (List.mem_of_getElem? (i := 152) rfl) rfl
theorem tb_54 : Cond.fieldLink R_F 98 "GraphPages$Elements" "names" "[I" ∈ gTb := gm1 (List.mem_of_getElem? (i := 156) rfl) rfl
theorem tb_55 : Cond.fieldLink R_F 102 "GraphPages$Elements" "parents" "[I" ∈ gTb := gm1 (List.mem_of_getElem? (i := 159) rfl) rfl
theorem tb_56 : Cond.static y_O_isDigit ∈ gTb := gm3 (List.mem_of_getElem? (i := 147) rfl) rfl
theorem tb_57 : Cond.static y_O_isPrintable ∈ gTb := gm2 (List.mem_of_getElem? (i := 76) rfl) rfl
theorem tb_58 : Cond.methodLink R_F 62 y_E_addText ∈ gTb := gm3 (List.mem_of_getElem? (i := 150) rfl) rfl
theorem tb_59 : Cond.instanceMethod y_E_addText ∈ gTb := gm3 (List.mem_of_getElem? (i := 151) rfl) rfl
theorem tb_60 : Cond.selects R_E y_E_addText y_E_addText ∈ gTb := gm3 (List.mem_of_getElem? (i := 152) rfl) rfl
theorem tb_61 : Cond.methodLink R_F 59 y_F_readEntity ∈ gTb := gm3 (List.mem_of_getElem? (i := 154) rfl) rfl
theorem tb_62 : Cond.instanceMethod y_F_readEntity ∈ gTb := gm3 (List.mem_of_getElem? (i := 156) rfl) rfl
theorem tb_63 : Cond.selects R_F y_F_readEntity y_F_readEntity ∈ gTb := gmS (by decide +kernel) rfl
theorem tb_64 : Cond.methodLink R_F 56 y_F_readCode ∈ gTb := gm3 (List.mem_of_getElem? (i := 142) rfl) rfl
theorem tb_65 : Cond.instanceMethod y_F_readCode ∈ gTb := gm3 (List.mem_of_getElem? (i := 144) rfl) rfl
theorem tb_66 : Cond.selects R_F y_F_readCode y_F_readCode ∈ gTb := gmS (by decide +kernel) rfl
theorem tb_67 : Cond.methodLink R_F 50 y_F_readStart ∈ gTb := gm3 (List.mem_of_getElem? (i := 100) rfl) rfl
theorem tb_68 : Cond.instanceMethod y_F_readStart ∈ gTb := gm3 (List.mem_of_getElem? (i := 102) rfl) rfl
theorem tb_69 : Cond.selects R_F y_F_readStart y_F_readStart ∈ gTb := gmS (by decide +kernel) rfl
theorem tb_70 : Cond.methodLink R_F 53 y_F_readEnd ∈ gTb := gm3 (List.mem_of_getElem? (i := 138) rfl) rfl
theorem tb_71 : Cond.instanceMethod y_F_readEnd ∈ gTb := gm3 (List.mem_of_getElem? (i := 140) rfl) rfl
theorem tb_72 : Cond.selects R_F y_F_readEnd y_F_readEnd ∈ gTb := gmS (by decide +kernel) rfl
theorem tb_73 : Cond.methodLink R_F 19 y_E_removeAll ∈ gTb := gm3 (List.mem_of_getElem? (i := 88) rfl) rfl
theorem tb_74 : Cond.instanceMethod y_E_removeAll ∈ gTb := gm3 (List.mem_of_getElem? (i := 89) rfl) rfl
theorem tb_75 : Cond.selects R_E y_E_removeAll y_E_removeAll ∈ gTb := gm3 (List.mem_of_getElem? (i := 90) rfl) rfl
theorem tb_76 : Cond.methodLink R_F 39 y_F_readPiece ∈ gTb := gm3 (List.mem_of_getElem? (i := 92) rfl) rfl
theorem tb_77 : Cond.instanceMethod y_F_readPiece ∈ gTb := gm3 (List.mem_of_getElem? (i := 94) rfl) rfl
theorem tb_78 : Cond.selects R_F y_F_readPiece y_F_readPiece ∈ gTb := gmS (by decide +kernel) rfl
theorem tb_79 : Cond.fieldLink R_G 28 "GraphPages$Graph" "count" "I" ∈ gTb := gm1 (List.mem_of_getElem? (i := 32) rfl) rfl
theorem tb_80 : Cond.methodLink R_G 32 y_G_has ∈ gTb := gm2 (List.mem_of_getElem? (i := 71) rfl) rfl
theorem tb_81 : Cond.instanceMethod y_G_has ∈ gTb := gm2 (List.mem_of_getElem? (i := 72) rfl) rfl
theorem tb_82 : Cond.selects R_G y_G_has y_G_has ∈ gTb := gm2 (List.mem_of_getElem? (i := 73) rfl) rfl
theorem tb_83 : Cond.initialized R_G ∈ gTb := gm1 (List.mem_of_getElem? (i := 2) rfl) rfl
theorem tb_84 : Cond.fieldLink R_G 9 "GraphPages$Graph" "kinds" "[I" ∈ gTb := gm1 (List.mem_of_getElem? (i := 34) rfl) rfl
theorem tb_85 : Cond.fieldLink R_G 15 "GraphPages$Graph" "sizes" "[I" ∈ gTb := gm1 (List.mem_of_getElem? (i := 38) rfl) rfl
theorem tb_86 : Cond.fieldLink R_G 18 "GraphPages$Graph" "contents" "[I" ∈ gTb := gm1 (List.mem_of_getElem? (i := 43) rfl) rfl
theorem tb_87 : Cond.fieldLink R_G 21 "GraphPages$Graph" "values" "[I" ∈ gTb := gm1 (List.mem_of_getElem? (i := 44) rfl) rfl
theorem tb_88 : Cond.methodLink R_G 40 y_G_setSlot ∈ gTb := gm2 (List.mem_of_getElem? (i := 59) rfl) rfl
theorem tb_89 : Cond.instanceMethod y_G_setSlot ∈ gTb := gm2 (List.mem_of_getElem? (i := 60) rfl) rfl
theorem tb_90 : Cond.selects R_G y_G_setSlot y_G_setSlot ∈ gTb := gm2 (List.mem_of_getElem? (i := 61) rfl) rfl
theorem tb_91 : Cond.methodLink R_G 36 y_G_lay ∈ gTb := gm2 (List.mem_of_getElem? (i := 55) rfl) rfl
theorem tb_92 : Cond.instanceMethod y_G_lay ∈ gTb := gm2 (List.mem_of_getElem? (i := 56) rfl) rfl
theorem tb_93 : Cond.selects R_G y_G_lay y_G_lay ∈ gTb := gm2 (List.mem_of_getElem? (i := 57) rfl) rfl
theorem tb_94 : Cond.fieldLink R_G 24 "GraphPages$Graph" "characters" "[C" ∈ gTb := gm1 (List.mem_of_getElem? (i := 45) rfl) rfl
theorem tb_95 : Cond.methodLink R_H 120 y_E_findAttribute ∈ gTb := gm3 (List.mem_of_getElem? (i := 182) rfl) rfl
theorem tb_96 : Cond.methodLink R_H 182 y_P_codeAt ∈ gTb := gm3 (List.mem_of_getElem? (i := 183) rfl) rfl
theorem tb_97 : Cond.fieldLink R_H 32 "GraphPages$GraphReader" "elements" "LGraphPages$Elements;" ∈ gTb := gm1 (List.mem_of_getElem? (i := 238) rfl) rfl
theorem tb_98 : Cond.fieldLink R_H 176 "GraphPages$Elements" "valueCounts" "[I" ∈ gTb := gm1 (List.mem_of_getElem? (i := 176) rfl) rfl
theorem tb_99 : Cond.fieldLink R_H 28 "GraphPages$GraphReader" "page" "LGraphPages$Page;" ∈ gTb := gm1 (List.mem_of_getElem? (i := 237) rfl) rfl
theorem tb_100 : Cond.fieldLink R_H 179 "GraphPages$Elements" "valueStarts" "[I" ∈ gTb := gm1 (List.mem_of_getElem? (i := 174) rfl) rfl
theorem tb_101 : Cond.methodLink R_H 43 y_H_isOne ∈ gTb := gm3 (List.mem_of_getElem? (i := 178) rfl) rfl
theorem tb_102 : Cond.instanceMethod y_H_isOne ∈ gTb := gm3 (List.mem_of_getElem? (i := 180) rfl) rfl
theorem tb_103 : Cond.selects R_H y_H_isOne y_H_isOne ∈ gTb := gmS (by decide +kernel) rfl
theorem tb_104 : Cond.initialized R_H ∈ gTb := gm1 (List.mem_of_getElem? (i := 9) rfl) rfl
theorem tb_105 : Cond.fieldLink R_H 40 "GraphPages$Elements" "names" "[I" ∈ gTb := gm1 (List.mem_of_getElem? (i := 155) rfl) rfl
theorem tb_106 : Cond.methodLink R_H 132 y_H_countOf ∈ gTb := gm3 (List.mem_of_getElem? (i := 192) rfl) rfl
theorem tb_107 : Cond.instanceMethod y_H_countOf ∈ gTb := gm3 (List.mem_of_getElem? (i := 194) rfl) rfl
theorem tb_108 : Cond.selects R_H y_H_countOf y_H_countOf ∈ gTb := gmS (by decide +kernel) rfl
theorem tb_109 : Cond.methodLink R_H 54 y_H_countIn ∈ gTb := gm3 (List.mem_of_getElem? (i := 188) rfl) rfl
theorem tb_110 : Cond.instanceMethod y_H_countIn ∈ gTb := gm3 (List.mem_of_getElem? (i := 190) rfl) rfl
theorem tb_111 : Cond.selects R_H y_H_countIn y_H_countIn ∈ gTb := gmS (by decide +kernel) rfl
theorem tb_112 : Cond.methodLink R_H 58 y_H_isUnderstood ∈ gTb := gm3 (List.mem_of_getElem? (i := 197) rfl) rfl
theorem tb_113 : Cond.static y_H_isUnderstood ∈ gTb := gm3 (List.mem_of_getElem? (i := 198) rfl) rfl
theorem tb_114 : Cond.fieldLink R_H 47 "GraphPages$Elements" "count" "I" ∈ gTb := gm1 (List.mem_of_getElem? (i := 153) rfl) rfl
theorem tb_115 : Cond.fieldLink R_H 51 "GraphPages$Elements" "parents" "[I" ∈ gTb := gm1 (List.mem_of_getElem? (i := 158) rfl) rfl
theorem tb_116 : Cond.fieldLink R_H 96 "GraphPages$Elements" "attributeCounts" "[I" ∈ gTb := gm1 (List.mem_of_getElem? (i := 165) rfl) rfl
theorem tb_117 : Cond.fieldLink R_H 99 "GraphPages$Elements" "textCounts" "[I" ∈ gTb := gm1 (List.mem_of_getElem? (i := 169) rfl) rfl
theorem tb_118 : Cond.fieldLink R_H 102 "GraphPages$Elements" "children" "[I" ∈ gTb := gm1 (List.mem_of_getElem? (i := 161) rfl) rfl
theorem tb_119 : Cond.methodLink R_H 135 y_H_isObject ∈ gTb := gm3 (List.mem_of_getElem? (i := 225) rfl) rfl
theorem tb_120 : Cond.instanceMethod y_H_isObject ∈ gTb := gm3 (List.mem_of_getElem? (i := 227) rfl) rfl
theorem tb_121 : Cond.selects R_H y_H_isObject y_H_isObject ∈ gTb := gmS (by decide +kernel) rfl
theorem tb_122 : Cond.methodLink R_H 129 y_H_mayBear ∈ gTb := gm3 (List.mem_of_getElem? (i := 221) rfl) rfl
theorem tb_123 : Cond.instanceMethod y_H_mayBear ∈ gTb := gm3 (List.mem_of_getElem? (i := 223) rfl) rfl
theorem tb_124 : Cond.selects R_H y_H_mayBear y_H_mayBear ∈ gTb := gmS (by decide +kernel) rfl
theorem tb_125 : Cond.fieldLink R_H 123 "GraphPages$Elements" "attributeStarts" "[I" ∈ gTb := gm1 (List.mem_of_getElem? (i := 163) rfl) rfl
theorem tb_126 : Cond.fieldLink R_H 126 "GraphPages$Elements" "attributeNames" "[I" ∈ gTb := gm1 (List.mem_of_getElem? (i := 172) rfl) rfl
theorem tb_127 : Cond.fieldLink R_H 158 "GraphPages$Elements" "textStarts" "[I" ∈ gTb := gm1 (List.mem_of_getElem? (i := 167) rfl) rfl
theorem tb_128 : Cond.fieldLink R_H 154 "GraphPages$Elements" "text" "[C" ∈ gTb := gm1 (List.mem_of_getElem? (i := 179) rfl) rfl
theorem tb_129 : Cond.constantLong R_H 118 1099511627776 ∈ gTb := gm4 (List.mem_of_getElem? (i := 1) rfl) rfl
theorem tb_130 : Cond.constantLong R_H 190 10 ∈ gTb := gm4 (List.mem_of_getElem? (i := 2) rfl) rfl
theorem tb_131 : Cond.constantLong R_H 192 48 ∈ gTb := gm4 (List.mem_of_getElem? (i := 3) rfl) rfl
theorem tb_132 : Cond.methodLink R_H 105 y_H_hasSoundAttributes ∈ gTb := gm3 (List.mem_of_getElem? (i := 217) rfl) rfl
theorem tb_133 : Cond.instanceMethod y_H_hasSoundAttributes ∈ gTb := gm3 (List.mem_of_getElem? (i := 219) rfl) rfl
theorem tb_134 : Cond.selects R_H y_H_hasSoundAttributes y_H_hasSoundAttributes ∈ gTb := gmS (by decide +kernel) rfl
theorem tb_135 : Cond.methodLink R_H 108 y_H_hasSoundSize ∈ gTb := gm3 (List.mem_of_getElem? (i := 229) rfl) rfl
theorem tb_136 : Cond.instanceMethod y_H_hasSoundSize ∈ gTb := gm3 (List.mem_of_getElem? (i := 231) rfl) rfl
theorem tb_137 : Cond.selects R_H y_H_hasSoundSize y_H_hasSoundSize ∈ gTb := gmS (by decide +kernel) rfl
theorem tb_138 : Cond.methodLink R_H 114 y_H_numberIn ∈ gTb := gm3 (List.mem_of_getElem? (i := 237) rfl) rfl
theorem tb_139 : Cond.instanceMethod y_H_numberIn ∈ gTb := gm3 (List.mem_of_getElem? (i := 239) rfl) rfl
theorem tb_140 : Cond.selects R_H y_H_numberIn y_H_numberIn ∈ gTb := gmS (by decide +kernel) rfl
theorem tb_141 : Cond.methodLink R_H 111 y_E_isEmpty ∈ gTb := gm3 (List.mem_of_getElem? (i := 233) rfl) rfl
theorem tb_142 : Cond.instanceMethod y_E_isEmpty ∈ gTb := gm3 (List.mem_of_getElem? (i := 234) rfl) rfl
theorem tb_143 : Cond.selects R_E y_E_isEmpty y_E_isEmpty ∈ gTb := gm3 (List.mem_of_getElem? (i := 235) rfl) rfl
theorem tb_144 : Cond.methodLink R_H 161 y_G_addCharacter ∈ gTb := gm4 (List.mem_of_getElem? (i := 16) rfl) rfl
theorem tb_145 : Cond.instanceMethod y_G_addCharacter ∈ gTb := gm2 (List.mem_of_getElem? (i := 79) rfl) rfl
theorem tb_146 : Cond.selects R_G y_G_addCharacter y_G_addCharacter ∈ gTb := gm2 (List.mem_of_getElem? (i := 80) rfl) rfl
theorem tb_147 : Cond.fieldLink R_H 22 "GraphPages$GraphReader" "nextSlots" "[I" ∈ gTb := gm2 (List.mem_of_getElem? (i := 2) rfl) rfl
theorem tb_148 : Cond.fieldLink R_H 36 "GraphPages$GraphReader" "graph" "LGraphPages$Graph;" ∈ gTb := gm1 (List.mem_of_getElem? (i := 239) rfl) rfl
theorem tb_149 : Cond.fieldLink R_H 19 "GraphPages$GraphReader" "objectsOfIds" "[I" ∈ gTb := gm2 (List.mem_of_getElem? (i := 1) rfl) rfl
theorem tb_150 : Cond.fieldLink R_H 15 "GraphPages$GraphReader" "objectsOfElements" "[I" ∈ gTb := gm2 (List.mem_of_getElem? (i := 0) rfl) rfl
theorem tb_151 : Cond.methodLink R_H 138 y_H_layObject ∈ gTb := gm4 (List.mem_of_getElem? (i := 8) rfl) rfl
theorem tb_152 : Cond.instanceMethod y_H_layObject ∈ gTb := gm4 (List.mem_of_getElem? (i := 10) rfl) rfl
theorem tb_153 : Cond.selects R_H y_H_layObject y_H_layObject ∈ gTb := gmS (by decide +kernel) rfl
theorem tb_154 : Cond.methodLink R_H 142 y_H_keepId ∈ gTb := gm4 (List.mem_of_getElem? (i := 17) rfl) rfl
theorem tb_155 : Cond.instanceMethod y_H_keepId ∈ gTb := gm4 (List.mem_of_getElem? (i := 19) rfl) rfl
theorem tb_156 : Cond.selects R_H y_H_keepId y_H_keepId ∈ gTb := gmS (by decide +kernel) rfl
theorem tb_157 : Cond.fieldLink R_H 79 "GraphPages$GraphReader" "count" "I" ∈ gTb := gm2 (List.mem_of_getElem? (i := 4) rfl) rfl
theorem tb_158 : Cond.methodLink R_H 92 y_H_referredBy ∈ gTb := gm4 (List.mem_of_getElem? (i := 25) rfl) rfl
theorem tb_159 : Cond.instanceMethod y_H_referredBy ∈ gTb := gm4 (List.mem_of_getElem? (i := 27) rfl) rfl
theorem tb_160 : Cond.selects R_H y_H_referredBy y_H_referredBy ∈ gTb := gmS (by decide +kernel) rfl
theorem tb_161 : Cond.methodLink R_H 172 y_G_setSlot ∈ gTb := gm4 (List.mem_of_getElem? (i := 37) rfl) rfl
theorem tb_162 : Cond.methodLink R_H 168 y_H_holdElement ∈ gTb := gm4 (List.mem_of_getElem? (i := 33) rfl) rfl
theorem tb_163 : Cond.instanceMethod y_H_holdElement ∈ gTb := gm4 (List.mem_of_getElem? (i := 35) rfl) rfl
theorem tb_164 : Cond.selects R_H y_H_holdElement y_H_holdElement ∈ gTb := gmS (by decide +kernel) rfl
theorem tb_165 : Cond.fieldLink R_H 165 "GraphPages$Graph" "sizes" "[I" ∈ gTb := gm1 (List.mem_of_getElem? (i := 42) rfl) rfl
theorem tb_166 : Cond.fieldLink R_H 25 "GraphPages$GraphReader" "takenSlots" "[I" ∈ gTb := gm2 (List.mem_of_getElem? (i := 3) rfl) rfl
theorem tb_167 : Cond.methodLink R_H 62 y_H_findBody ∈ gTb := gm3 (List.mem_of_getElem? (i := 204) rfl) rfl
theorem tb_168 : Cond.instanceMethod y_H_findBody ∈ gTb := gm3 (List.mem_of_getElem? (i := 206) rfl) rfl
theorem tb_169 : Cond.selects R_H y_H_findBody y_H_findBody ∈ gTb := gmS (by decide +kernel) rfl
theorem tb_170 : Cond.methodLink R_H 66 y_H_isSoundBody ∈ gTb := gm3 (List.mem_of_getElem? (i := 208) rfl) rfl
theorem tb_171 : Cond.instanceMethod y_H_isSoundBody ∈ gTb := gm3 (List.mem_of_getElem? (i := 210) rfl) rfl
theorem tb_172 : Cond.selects R_H y_H_isSoundBody y_H_isSoundBody ∈ gTb := gmS (by decide +kernel) rfl
theorem tb_173 : Cond.methodLink R_H 80 y_H_isSound ∈ gTb := gm3 (List.mem_of_getElem? (i := 213) rfl) rfl
theorem tb_174 : Cond.instanceMethod y_H_isSound ∈ gTb := gm3 (List.mem_of_getElem? (i := 215) rfl) rfl
theorem tb_175 : Cond.selects R_H y_H_isSound y_H_isSound ∈ gTb := gmS (by decide +kernel) rfl
theorem tb_176 : Cond.methodLink R_H 83 y_H_numberObject ∈ gTb := gm4 (List.mem_of_getElem? (i := 4) rfl) rfl
theorem tb_177 : Cond.instanceMethod y_H_numberObject ∈ gTb := gm4 (List.mem_of_getElem? (i := 6) rfl) rfl
theorem tb_178 : Cond.selects R_H y_H_numberObject y_H_numberObject ∈ gTb := gmS (by decide +kernel) rfl
theorem tb_179 : Cond.methodLink R_H 89 y_H_fillSlot ∈ gTb := gm4 (List.mem_of_getElem? (i := 29) rfl) rfl
theorem tb_180 : Cond.instanceMethod y_H_fillSlot ∈ gTb := gm4 (List.mem_of_getElem? (i := 31) rfl) rfl
theorem tb_181 : Cond.selects R_H y_H_fillSlot y_H_fillSlot ∈ gTb := gmS (by decide +kernel) rfl
theorem tb_182 : Cond.methodLink R_H 86 y_H_mayStandInBody ∈ gTb := gm4 (List.mem_of_getElem? (i := 21) rfl) rfl
theorem tb_183 : Cond.instanceMethod y_H_mayStandInBody ∈ gTb := gm4 (List.mem_of_getElem? (i := 23) rfl) rfl
theorem tb_184 : Cond.selects R_H y_H_mayStandInBody y_H_mayStandInBody ∈ gTb := gmS (by decide +kernel) rfl
theorem tb_185 : Cond.fieldLink R_H 76 "GraphPages$Graph" "count" "I" ∈ gTb := gm1 (List.mem_of_getElem? (i := 33) rfl) rfl
theorem tb_186 : Cond.fieldLink R_A 9 "GraphPages$Matching" "partners" "[I" ∈ gTb := gm1 (List.mem_of_getElem? (i := 105) rfl) rfl
theorem tb_187 : Cond.fieldLink R_A 15 "GraphPages$Matching" "partnersBack" "[I" ∈ gTb := gm1 (List.mem_of_getElem? (i := 106) rfl) rfl
theorem tb_188 : Cond.fieldLink R_A 18 "GraphPages$Matching" "order" "[I" ∈ gTb := gm1 (List.mem_of_getElem? (i := 107) rfl) rfl
theorem tb_189 : Cond.fieldLink R_A 31 "GraphPages$Matching" "count" "I" ∈ gTb := gm1 (List.mem_of_getElem? (i := 108) rfl) rfl
theorem tb_190 : Cond.methodLink R_A 60 y_G_characterOf ∈ gTb := gm2 (List.mem_of_getElem? (i := 152) rfl) rfl
theorem tb_191 : Cond.instanceMethod y_G_characterOf ∈ gTb := gm2 (List.mem_of_getElem? (i := 125) rfl) rfl
theorem tb_192 : Cond.selects R_G y_G_characterOf y_G_characterOf ∈ gTb := gm2 (List.mem_of_getElem? (i := 126) rfl) rfl
theorem tb_193 : Cond.fieldLink R_A 21 "GraphPages$Matching" "graph" "LGraphPages$Graph;" ∈ gTb := gm1 (List.mem_of_getElem? (i := 104) rfl) rfl
theorem tb_194 : Cond.fieldLink R_A 47 "GraphPages$Graph" "sizes" "[I" ∈ gTb := gm1 (List.mem_of_getElem? (i := 39) rfl) rfl
theorem tb_195 : Cond.methodLink R_A 68 y_G_contentOf ∈ gTb := gm2 (List.mem_of_getElem? (i := 161) rfl) rfl
theorem tb_196 : Cond.instanceMethod y_G_contentOf ∈ gTb := gm2 (List.mem_of_getElem? (i := 113) rfl) rfl
theorem tb_197 : Cond.selects R_G y_G_contentOf y_G_contentOf ∈ gTb := gm2 (List.mem_of_getElem? (i := 114) rfl) rfl
theorem tb_198 : Cond.methodLink R_A 72 y_G_valueOf ∈ gTb := gm2 (List.mem_of_getElem? (i := 162) rfl) rfl
theorem tb_199 : Cond.instanceMethod y_G_valueOf ∈ gTb := gm2 (List.mem_of_getElem? (i := 121) rfl) rfl
theorem tb_200 : Cond.selects R_G y_G_valueOf y_G_valueOf ∈ gTb := gm2 (List.mem_of_getElem? (i := 122) rfl) rfl
theorem tb_201 : Cond.methodLink R_A 35 y_A_match ∈ gTb := gm2 (List.mem_of_getElem? (i := 139) rfl) rfl
theorem tb_202 : Cond.instanceMethod y_A_match ∈ gTb := gm2 (List.mem_of_getElem? (i := 141) rfl) rfl
theorem tb_203 : Cond.selects R_A y_A_match y_A_match ∈ gTb := gmS (by decide +kernel) rfl
theorem tb_204 : Cond.initialized R_A ∈ gTb := gm1 (List.mem_of_getElem? (i := 5) rfl) rfl
theorem tb_205 : Cond.methodLink R_A 64 y_A_haveSameSlot ∈ gTb := gm2 (List.mem_of_getElem? (i := 157) rfl) rfl
theorem tb_206 : Cond.instanceMethod y_A_haveSameSlot ∈ gTb := gm2 (List.mem_of_getElem? (i := 159) rfl) rfl
theorem tb_207 : Cond.selects R_A y_A_haveSameSlot y_A_haveSameSlot ∈ gTb := gmS (by decide +kernel) rfl
theorem tb_208 : Cond.methodLink R_A 50 y_G_isText ∈ gTb := gm2 (List.mem_of_getElem? (i := 147) rfl) rfl
theorem tb_209 : Cond.instanceMethod y_G_isText ∈ gTb := gm2 (List.mem_of_getElem? (i := 68) rfl) rfl
theorem tb_210 : Cond.selects R_G y_G_isText y_G_isText ∈ gTb := gm2 (List.mem_of_getElem? (i := 69) rfl) rfl
theorem tb_211 : Cond.methodLink R_A 57 y_A_haveSameSlots ∈ gTb := gm2 (List.mem_of_getElem? (i := 153) rfl) rfl
theorem tb_212 : Cond.instanceMethod y_A_haveSameSlots ∈ gTb := gm2 (List.mem_of_getElem? (i := 155) rfl) rfl
theorem tb_213 : Cond.selects R_A y_A_haveSameSlots y_A_haveSameSlots ∈ gTb := gmS (by decide +kernel) rfl
theorem tb_214 : Cond.methodLink R_A 54 y_A_haveSameCharacters ∈ gTb := gm2 (List.mem_of_getElem? (i := 148) rfl) rfl
theorem tb_215 : Cond.instanceMethod y_A_haveSameCharacters ∈ gTb := gm2 (List.mem_of_getElem? (i := 150) rfl) rfl
theorem tb_216 : Cond.selects R_A y_A_haveSameCharacters y_A_haveSameCharacters ∈ gTb := gmS (by decide +kernel) rfl
theorem tb_217 : Cond.fieldLink R_A 42 "GraphPages$Graph" "kinds" "[I" ∈ gTb := gm1 (List.mem_of_getElem? (i := 35) rfl) rfl
theorem tb_218 : Cond.methodLink R_A 39 y_A_haveSameInside ∈ gTb := gm2 (List.mem_of_getElem? (i := 143) rfl) rfl
theorem tb_219 : Cond.instanceMethod y_A_haveSameInside ∈ gTb := gm2 (List.mem_of_getElem? (i := 145) rfl) rfl
theorem tb_220 : Cond.selects R_A y_A_haveSameInside y_A_haveSameInside ∈ gTb := gmS (by decide +kernel) rfl
theorem tb_221 : Cond.fieldLink R_R 9 "GraphPages$Reach" "references" "[I" ∈ gTb := gm1 (List.mem_of_getElem? (i := 85) rfl) rfl
theorem tb_222 : Cond.fieldLink R_R 15 "GraphPages$Reach" "order" "[I" ∈ gTb := gm1 (List.mem_of_getElem? (i := 86) rfl) rfl
theorem tb_223 : Cond.fieldLink R_R 28 "GraphPages$Reach" "count" "I" ∈ gTb := gm1 (List.mem_of_getElem? (i := 87) rfl) rfl
theorem tb_224 : Cond.methodLink R_R 39 y_G_hasSlot ∈ gTb := gm2 (List.mem_of_getElem? (i := 180) rfl) rfl
theorem tb_225 : Cond.instanceMethod y_G_hasSlot ∈ gTb := gm2 (List.mem_of_getElem? (i := 87) rfl) rfl
theorem tb_226 : Cond.selects R_G y_G_hasSlot y_G_hasSlot ∈ gTb := gm2 (List.mem_of_getElem? (i := 88) rfl) rfl
theorem tb_227 : Cond.methodLink R_R 45 y_G_contentOf ∈ gTb := gm2 (List.mem_of_getElem? (i := 181) rfl) rfl
theorem tb_228 : Cond.methodLink R_R 49 y_G_valueOf ∈ gTb := gm2 (List.mem_of_getElem? (i := 182) rfl) rfl
theorem tb_229 : Cond.methodLink R_R 32 y_R_refer ∈ gTb := gm2 (List.mem_of_getElem? (i := 172) rfl) rfl
theorem tb_230 : Cond.instanceMethod y_R_refer ∈ gTb := gm2 (List.mem_of_getElem? (i := 174) rfl) rfl
theorem tb_231 : Cond.selects R_R y_R_refer y_R_refer ∈ gTb := gmS (by decide +kernel) rfl
theorem tb_232 : Cond.initialized R_R ∈ gTb := gm1 (List.mem_of_getElem? (i := 4) rfl) rfl
theorem tb_233 : Cond.fieldLink R_R 18 "GraphPages$Reach" "graph" "LGraphPages$Graph;" ∈ gTb := gm1 (List.mem_of_getElem? (i := 84) rfl) rfl
theorem tb_234 : Cond.methodLink R_R 36 y_R_followSlots ∈ gTb := gm2 (List.mem_of_getElem? (i := 176) rfl) rfl
theorem tb_235 : Cond.instanceMethod y_R_followSlots ∈ gTb := gm2 (List.mem_of_getElem? (i := 178) rfl) rfl
theorem tb_236 : Cond.selects R_R y_R_followSlots y_R_followSlots ∈ gTb := gmS (by decide +kernel) rfl
theorem tb_237 : Cond.methodLink R_R 52 y_R_isShared ∈ gTb := gm2 (List.mem_of_getElem? (i := 187) rfl) rfl
theorem tb_238 : Cond.instanceMethod y_R_isShared ∈ gTb := gm2 (List.mem_of_getElem? (i := 188) rfl) rfl
theorem tb_239 : Cond.selects R_R y_R_isShared y_R_isShared ∈ gTb := gm2 (List.mem_of_getElem? (i := 189) rfl) rfl
theorem tb_240 : Cond.fieldLink R_W 9 "GraphPages$Writer" "ids" "[I" ∈ gTb := gm1 (List.mem_of_getElem? (i := 129) rfl) rfl
theorem tb_241 : Cond.fieldLink R_W 15 "GraphPages$Writer" "order" "[I" ∈ gTb := gm1 (List.mem_of_getElem? (i := 130) rfl) rfl
theorem tb_242 : Cond.fieldLink R_W 42 "GraphPages$Writer" "count" "I" ∈ gTb := gm1 (List.mem_of_getElem? (i := 131) rfl) rfl
theorem tb_243 : Cond.methodLink R_W 107 y_P_append ∈ gTb := gm3 (List.mem_of_getElem? (i := 14) rfl) rfl
theorem tb_244 : Cond.instanceMethod y_P_append ∈ gTb := gm3 (List.mem_of_getElem? (i := 15) rfl) rfl
theorem tb_245 : Cond.selects R_P y_P_append y_P_append ∈ gTb := gm3 (List.mem_of_getElem? (i := 16) rfl) rfl
theorem tb_246 : Cond.fieldLink R_W 26 "GraphPages$Writer" "page" "LGraphPages$Page;" ∈ gTb := gm1 (List.mem_of_getElem? (i := 128) rfl) rfl
theorem tb_247 : Cond.constantLong R_W 155 10 ∈ gTb := gm3 (List.mem_of_getElem? (i := 38) rfl) rfl
theorem tb_248 : Cond.methodLink R_W 124 y_G_contentOf ∈ gTb := gm3 (List.mem_of_getElem? (i := 48) rfl) rfl
theorem tb_249 : Cond.fieldLink R_W 18 "GraphPages$Writer" "graph" "LGraphPages$Graph;" ∈ gTb := gm1 (List.mem_of_getElem? (i := 126) rfl) rfl
theorem tb_250 : Cond.fieldLink R_W 83 "GraphPages$Graph" "kinds" "[I" ∈ gTb := gm1 (List.mem_of_getElem? (i := 36) rfl) rfl
theorem tb_251 : Cond.fieldLink R_W 102 "GraphPages$Graph" "sizes" "[I" ∈ gTb := gm1 (List.mem_of_getElem? (i := 40) rfl) rfl
theorem tb_252 : Cond.methodLink R_W 143 y_G_characterOf ∈ gTb := gm3 (List.mem_of_getElem? (i := 59) rfl) rfl
theorem tb_253 : Cond.methodLink R_W 128 y_W_behindLastWrittenSlot ∈ gTb := gm3 (List.mem_of_getElem? (i := 67) rfl) rfl
theorem tb_254 : Cond.instanceMethod y_W_behindLastWrittenSlot ∈ gTb := gm3 (List.mem_of_getElem? (i := 69) rfl) rfl
theorem tb_255 : Cond.selects R_W y_W_behindLastWrittenSlot y_W_behindLastWrittenSlot ∈ gTb := gmS (by decide +kernel) rfl
theorem tb_256 : Cond.initialized R_W ∈ gTb := gm1 (List.mem_of_getElem? (i := 6) rfl) rfl
theorem tb_257 : Cond.methodLink R_W 135 y_G_valueOf ∈ gTb := gm3 (List.mem_of_getElem? (i := 73) rfl) rfl
theorem tb_258 : Cond.methodLink R_W 66 y_R_isShared ∈ gTb := gm3 (List.mem_of_getElem? (i := 22) rfl) rfl
theorem tb_259 : Cond.methodLink R_W 70 y_W_giveId ∈ gTb := gm3 (List.mem_of_getElem? (i := 23) rfl) rfl
theorem tb_260 : Cond.instanceMethod y_W_giveId ∈ gTb := gm3 (List.mem_of_getElem? (i := 25) rfl) rfl
theorem tb_261 : Cond.selects R_W y_W_giveId y_W_giveId ∈ gTb := gmS (by decide +kernel) rfl
theorem tb_262 : Cond.fieldLink R_W 22 "GraphPages$Writer" "reach" "LGraphPages$Reach;" ∈ gTb := gm1 (List.mem_of_getElem? (i := 127) rfl) rfl
theorem tb_263 : Cond.methodLink R_W 30 y_R_startFrom ∈ gTb := gm2 (List.mem_of_getElem? (i := 199) rfl) rfl
theorem tb_264 : Cond.instanceMethod y_R_startFrom ∈ gTb := gm2 (List.mem_of_getElem? (i := 168) rfl) rfl
theorem tb_265 : Cond.selects R_R y_R_startFrom y_R_startFrom ∈ gTb := gm2 (List.mem_of_getElem? (i := 169) rfl) rfl
theorem tb_266 : Cond.methodLink R_O 77 y_G_add ∈ gTb := gm2 (List.mem_of_getElem? (i := 51) rfl) rfl
theorem tb_267 : Cond.instanceMethod y_G_add ∈ gTb := gm2 (List.mem_of_getElem? (i := 52) rfl) rfl
theorem tb_268 : Cond.selects R_G y_G_add y_G_add ∈ gTb := gm2 (List.mem_of_getElem? (i := 53) rfl) rfl
theorem tb_269 : Cond.fieldLink R_O 10 "GraphPages" "graph" "LGraphPages$Graph;" ∈ gTb := gm2 (List.mem_of_getElem? (i := 22) rfl) rfl
theorem tb_270 : Cond.fieldLink R_O 73 "GraphPages$Graph" "count" "I" ∈ gTb := gm1 (List.mem_of_getElem? (i := 31) rfl) rfl
theorem tb_271 : Cond.methodLink R_O 81 y_G_isText ∈ gTb := gm2 (List.mem_of_getElem? (i := 67) rfl) rfl
theorem tb_272 : Cond.methodLink R_O 85 y_O_isPrintable ∈ gTb := gm2 (List.mem_of_getElem? (i := 75) rfl) rfl
theorem tb_273 : Cond.methodLink R_O 88 y_G_addCharacter ∈ gTb := gm2 (List.mem_of_getElem? (i := 78) rfl) rfl
theorem tb_274 : Cond.methodLink R_O 92 y_G_hasSlot ∈ gTb := gm2 (List.mem_of_getElem? (i := 86) rfl) rfl
theorem tb_275 : Cond.methodLink R_O 96 y_G_setSlot ∈ gTb := gm2 (List.mem_of_getElem? (i := 90) rfl) rfl
theorem tb_276 : Cond.methodLink R_O 100 y_G_has ∈ gTb := gm2 (List.mem_of_getElem? (i := 95) rfl) rfl
theorem tb_277 : Cond.fieldLink R_O 103 "GraphPages$Graph" "kinds" "[I" ∈ gTb := gm1 (List.mem_of_getElem? (i := 37) rfl) rfl
theorem tb_278 : Cond.fieldLink R_O 107 "GraphPages$Graph" "sizes" "[I" ∈ gTb := gm1 (List.mem_of_getElem? (i := 41) rfl) rfl
theorem tb_279 : Cond.methodLink R_O 110 y_G_contentOf ∈ gTb := gm2 (List.mem_of_getElem? (i := 112) rfl) rfl
theorem tb_280 : Cond.methodLink R_O 116 y_G_characterOf ∈ gTb := gm2 (List.mem_of_getElem? (i := 124) rfl) rfl
theorem tb_281 : Cond.methodLink R_O 113 y_G_valueOf ∈ gTb := gm2 (List.mem_of_getElem? (i := 120) rfl) rfl
theorem tb_282 : Cond.methodLink R_O 120 y_A_exists ∈ gTb := gm2 (List.mem_of_getElem? (i := 132) rfl) rfl
theorem tb_283 : Cond.instanceMethod y_A_exists ∈ gTb := gm2 (List.mem_of_getElem? (i := 133) rfl) rfl
theorem tb_284 : Cond.selects R_A y_A_exists y_A_exists ∈ gTb := gm2 (List.mem_of_getElem? (i := 134) rfl) rfl
theorem tb_285 : Cond.fieldLink R_O 39 "GraphPages" "matching" "LGraphPages$Matching;" ∈ gTb := gm2 (List.mem_of_getElem? (i := 26) rfl) rfl
theorem tb_286 : Cond.methodLink R_O 123 y_R_startFrom ∈ gTb := gm2 (List.mem_of_getElem? (i := 167) rfl) rfl
theorem tb_287 : Cond.methodLink R_O 127 y_R_countShared ∈ gTb := gm2 (List.mem_of_getElem? (i := 183) rfl) rfl
theorem tb_288 : Cond.instanceMethod y_R_countShared ∈ gTb := gm2 (List.mem_of_getElem? (i := 184) rfl) rfl
theorem tb_289 : Cond.selects R_R y_R_countShared y_R_countShared ∈ gTb := gm2 (List.mem_of_getElem? (i := 185) rfl) rfl
theorem tb_290 : Cond.fieldLink R_O 32 "GraphPages" "reach" "LGraphPages$Reach;" ∈ gTb := gm2 (List.mem_of_getElem? (i := 25) rfl) rfl
theorem tb_291 : Cond.methodLink R_O 131 y_W_writeFrom ∈ gTb := gm2 (List.mem_of_getElem? (i := 195) rfl) rfl
theorem tb_292 : Cond.instanceMethod y_W_writeFrom ∈ gTb := gm2 (List.mem_of_getElem? (i := 196) rfl) rfl
theorem tb_293 : Cond.selects R_W y_W_writeFrom y_W_writeFrom ∈ gTb := gm2 (List.mem_of_getElem? (i := 197) rfl) rfl
theorem tb_294 : Cond.fieldLink R_O 48 "GraphPages" "writer" "LGraphPages$Writer;" ∈ gTb := gm2 (List.mem_of_getElem? (i := 27) rfl) rfl
theorem tb_295 : Cond.fieldLink R_O 19 "GraphPages" "page" "LGraphPages$Page;" ∈ gTb := gm2 (List.mem_of_getElem? (i := 23) rfl) rfl
theorem tb_296 : Cond.fieldLink R_O 134 "GraphPages$Page" "end" "I" ∈ gTb := gm1 (List.mem_of_getElem? (i := 70) rfl) rfl
theorem tb_297 : Cond.methodLink R_O 137 y_F_isWellFormed ∈ gTb := gm3 (List.mem_of_getElem? (i := 84) rfl) rfl
theorem tb_298 : Cond.instanceMethod y_F_isWellFormed ∈ gTb := gm3 (List.mem_of_getElem? (i := 85) rfl) rfl
theorem tb_299 : Cond.selects R_F y_F_isWellFormed y_F_isWellFormed ∈ gTb := gm3 (List.mem_of_getElem? (i := 86) rfl) rfl
theorem tb_300 : Cond.methodLink R_O 141 y_H_knowsVersion ∈ gTb := gm3 (List.mem_of_getElem? (i := 174) rfl) rfl
theorem tb_301 : Cond.instanceMethod y_H_knowsVersion ∈ gTb := gm3 (List.mem_of_getElem? (i := 175) rfl) rfl
theorem tb_302 : Cond.selects R_H y_H_knowsVersion y_H_knowsVersion ∈ gTb := gm3 (List.mem_of_getElem? (i := 176) rfl) rfl
theorem tb_303 : Cond.methodLink R_O 144 y_H_understandsHeaders ∈ gTb := gm3 (List.mem_of_getElem? (i := 184) rfl) rfl
theorem tb_304 : Cond.instanceMethod y_H_understandsHeaders ∈ gTb := gm3 (List.mem_of_getElem? (i := 185) rfl) rfl
theorem tb_305 : Cond.selects R_H y_H_understandsHeaders y_H_understandsHeaders ∈ gTb := gm3 (List.mem_of_getElem? (i := 186) rfl) rfl
theorem tb_306 : Cond.methodLink R_O 148 y_H_readGraph ∈ gTb := gm3 (List.mem_of_getElem? (i := 200) rfl) rfl
theorem tb_307 : Cond.instanceMethod y_H_readGraph ∈ gTb := gm3 (List.mem_of_getElem? (i := 201) rfl) rfl
theorem tb_308 : Cond.selects R_H y_H_readGraph y_H_readGraph ∈ gTb := gm3 (List.mem_of_getElem? (i := 202) rfl) rfl
theorem tb_309 : Cond.fieldLink R_O 60 "GraphPages" "formReader" "LGraphPages$FormReader;" ∈ gTb := gm2 (List.mem_of_getElem? (i := 28) rfl) rfl
theorem tb_310 : Cond.fieldLink R_O 69 "GraphPages" "graphReader" "LGraphPages$GraphReader;" ∈ gTb := gm2 (List.mem_of_getElem? (i := 29) rfl) rfl
theorem tb_311 : Cond.fieldLink R_O 23 "GraphPages" "understood" "[Z" ∈ gTb := gm2 (List.mem_of_getElem? (i := 24) rfl) rfl
theorem tb_312 : Cond.methodLink R_O 151 y_P_codeAt ∈ gTb := gm4 (List.mem_of_getElem? (i := 54) rfl) rfl
theorem tb_313 : Cond.methodLink R_O 155 y_P_append ∈ gTb := gm4 (List.mem_of_getElem? (i := 59) rfl) rfl
theorem tb_314 : Cond.fieldLink R_O 159 "GraphPages$Page" "characters" "[C" ∈ gTb := gm1 (List.mem_of_getElem? (i := 72) rfl) rfl
theorem tb_315 : Cond.fieldLink R_M 87 "GraphPagesModel" "count" "I" ∈ gTb := gm4 (List.mem_of_getElem? (i := 74) rfl) rfl
theorem tb_316 : Cond.fieldLink R_M 7 "GraphPagesModel" "sort" "[I" ∈ gTb := gm4 (List.mem_of_getElem? (i := 75) rfl) rfl
theorem tb_317 : Cond.fieldLink R_M 13 "GraphPagesModel" "room" "[I" ∈ gTb := gm4 (List.mem_of_getElem? (i := 76) rfl) rfl
theorem tb_318 : Cond.fieldLink R_M 16 "GraphPagesModel" "what" "[I" ∈ gTb := gm4 (List.mem_of_getElem? (i := 77) rfl) rfl
theorem tb_319 : Cond.methodLink R_M 91 y_M_object ∈ gTb := gm4 (List.mem_of_getElem? (i := 188) rfl) rfl
theorem tb_320 : Cond.instanceMethod y_M_object ∈ gTb := gm4 (List.mem_of_getElem? (i := 190) rfl) rfl
theorem tb_321 : Cond.selects R_M y_M_object y_M_object ∈ gTb := gmS (by decide +kernel) rfl
theorem tb_322 : Cond.initialized R_M ∈ gTb := gm1 (List.mem_of_getElem? (i := 10) rfl) rfl
theorem tb_323 : Cond.fieldLink R_M 22 "GraphPagesModel" "letters" "[I" ∈ gTb := gm4 (List.mem_of_getElem? (i := 79) rfl) rfl
theorem tb_324 : Cond.methodLink R_M 95 y_M_slotThere ∈ gTb := gm4 (List.mem_of_getElem? (i := 196) rfl) rfl
theorem tb_325 : Cond.instanceMethod y_M_slotThere ∈ gTb := gm4 (List.mem_of_getElem? (i := 198) rfl) rfl
theorem tb_326 : Cond.selects R_M y_M_slotThere y_M_slotThere ∈ gTb := gmS (by decide +kernel) rfl
theorem tb_327 : Cond.fieldLink R_M 19 "GraphPagesModel" "cell" "[I" ∈ gTb := gm4 (List.mem_of_getElem? (i := 78) rfl) rfl
theorem tb_328 : Cond.methodLink R_M 99 y_M_sameOutside ∈ gTb := gm4 (List.mem_of_getElem? (i := 232) rfl) rfl
theorem tb_329 : Cond.instanceMethod y_M_sameOutside ∈ gTb := gm4 (List.mem_of_getElem? (i := 234) rfl) rfl
theorem tb_330 : Cond.selects R_M y_M_sameOutside y_M_sameOutside ∈ gTb := gmS (by decide +kernel) rfl
theorem tb_331 : Cond.fieldLink R_M 81 "GraphPagesModel" "pair" "[I" ∈ gTb := gm4 (List.mem_of_getElem? (i := 107) rfl) rfl
theorem tb_332 : Cond.fieldLink R_M 84 "GraphPagesModel" "back" "[I" ∈ gTb := gm4 (List.mem_of_getElem? (i := 108) rfl) rfl
theorem tb_333 : Cond.methodLink R_M 102 y_M_holds ∈ gTb := gm5 (List.mem_of_getElem? (i := 4) rfl) rfl
theorem tb_334 : Cond.instanceMethod y_M_holds ∈ gTb := gm4 (List.mem_of_getElem? (i := 217) rfl) rfl
theorem tb_335 : Cond.selects R_M y_M_holds y_M_holds ∈ gTb := gm4 (List.mem_of_getElem? (i := 218) rfl) rfl
theorem tb_336 : Cond.fieldLink R_M 66 "GraphPagesModel" "reached" "[Z" ∈ gTb := gm4 (List.mem_of_getElem? (i := 100) rfl) rfl
theorem tb_337 : Cond.fieldLink R_M 69 "GraphPagesModel" "refs" "[I" ∈ gTb := gm4 (List.mem_of_getElem? (i := 101) rfl) rfl
theorem tb_338 : Cond.fieldLink R_M 72 "GraphPagesModel" "id" "[I" ∈ gTb := gm4 (List.mem_of_getElem? (i := 102) rfl) rfl
theorem tb_339 : Cond.methodLink R_M 106 y_M_mark ∈ gTb := gm5 (List.mem_of_getElem? (i := 0) rfl) rfl
theorem tb_340 : Cond.instanceMethod y_M_mark ∈ gTb := gm5 (List.mem_of_getElem? (i := 2) rfl) rfl
theorem tb_341 : Cond.selects R_M y_M_mark y_M_mark ∈ gTb := gmS (by decide +kernel) rfl
theorem tb_342 : Cond.fieldLink R_M 29 "GraphPagesModel" "page" "[C" ∈ gTb := gm4 (List.mem_of_getElem? (i := 82) rfl) rfl
theorem tb_343 : Cond.fieldLink R_M 110 "GraphPagesModel" "used" "I" ∈ gTb := gm4 (List.mem_of_getElem? (i := 81) rfl) rfl
theorem tb_344 : Cond.methodLink R_M 113 y_M_out ∈ gTb := gm5 (List.mem_of_getElem? (i := 9) rfl) rfl
theorem tb_345 : Cond.instanceMethod y_M_out ∈ gTb := gm5 (List.mem_of_getElem? (i := 11) rfl) rfl
theorem tb_346 : Cond.selects R_M y_M_out y_M_out ∈ gTb := gmS (by decide +kernel) rfl
theorem tb_347 : Cond.constantLong R_M 117 10 ∈ gTb := gm5 (List.mem_of_getElem? (i := 29) rfl) rfl
theorem tb_348 : Cond.constantLong R_M 119 48 ∈ gTb := gm5 (List.mem_of_getElem? (i := 30) rfl) rfl
theorem tb_349 : Cond.methodLink R_M 121 y_M_number ∈ gTb := gm5 (List.mem_of_getElem? (i := 25) rfl) rfl
theorem tb_350 : Cond.instanceMethod y_M_number ∈ gTb := gm5 (List.mem_of_getElem? (i := 27) rfl) rfl
theorem tb_351 : Cond.selects R_M y_M_number y_M_number ∈ gTb := gmS (by decide +kernel) rfl
theorem tb_352 : Cond.methodLink R_M 131 y_M_attribute ∈ gTb := gm5 (List.mem_of_getElem? (i := 21) rfl) rfl
theorem tb_353 : Cond.instanceMethod y_M_attribute ∈ gTb := gm5 (List.mem_of_getElem? (i := 23) rfl) rfl
theorem tb_354 : Cond.selects R_M y_M_attribute y_M_attribute ∈ gTb := gmS (by decide +kernel) rfl
theorem tb_355 : Cond.methodLink R_M 135 y_M_character ∈ gTb := gm5 (List.mem_of_getElem? (i := 31) rfl) rfl
theorem tb_356 : Cond.instanceMethod y_M_character ∈ gTb := gm5 (List.mem_of_getElem? (i := 33) rfl) rfl
theorem tb_357 : Cond.selects R_M y_M_character y_M_character ∈ gTb := gmS (by decide +kernel) rfl
theorem tb_358 : Cond.fieldLink R_M 78 "GraphPagesModel" "pile" "[I" ∈ gTb := gm4 (List.mem_of_getElem? (i := 105) rfl) rfl
theorem tb_359 : Cond.fieldLink R_M 138 "GraphPagesModel" "piled" "I" ∈ gTb := gm4 (List.mem_of_getElem? (i := 106) rfl) rfl
theorem tb_360 : Cond.methodLink R_M 125 y_M_element ∈ gTb := gm5 (List.mem_of_getElem? (i := 17) rfl) rfl
theorem tb_361 : Cond.instanceMethod y_M_element ∈ gTb := gm5 (List.mem_of_getElem? (i := 19) rfl) rfl
theorem tb_362 : Cond.selects R_M y_M_element y_M_element ∈ gTb := gmS (by decide +kernel) rfl
theorem tb_363 : Cond.fieldLink R_M 128 "GraphPagesModel" "given" "I" ∈ gTb := gm4 (List.mem_of_getElem? (i := 104) rfl) rfl
theorem tb_364 : Cond.fieldLink R_M 75 "GraphPagesModel" "order" "[I" ∈ gTb := gm4 (List.mem_of_getElem? (i := 103) rfl) rfl
theorem tb_365 : Cond.methodLink R_M 141 y_M_reference ∈ gTb := gm5 (List.mem_of_getElem? (i := 13) rfl) rfl
theorem tb_366 : Cond.instanceMethod y_M_reference ∈ gTb := gm5 (List.mem_of_getElem? (i := 15) rfl) rfl
theorem tb_367 : Cond.selects R_M y_M_reference y_M_reference ∈ gTb := gmS (by decide +kernel) rfl
theorem tb_368 : Cond.methodLink R_M 144 y_M_work ∈ gTb := gm5 (List.mem_of_getElem? (i := 35) rfl) rfl
theorem tb_369 : Cond.instanceMethod y_M_work ∈ gTb := gm5 (List.mem_of_getElem? (i := 37) rfl) rfl
theorem tb_370 : Cond.selects R_M y_M_work y_M_work ∈ gTb := gmS (by decide +kernel) rfl
theorem tb_371 : Cond.methodLink R_M 147 y_M_charOr0 ∈ gTb := gm5 (List.mem_of_getElem? (i := 71) rfl) rfl
theorem tb_372 : Cond.instanceMethod y_M_charOr0 ∈ gTb := gm5 (List.mem_of_getElem? (i := 73) rfl) rfl
theorem tb_373 : Cond.selects R_M y_M_charOr0 y_M_charOr0 ∈ gTb := gmS (by decide +kernel) rfl
theorem tb_374 : Cond.fieldLink R_M 151 "GraphPagesModel" "nameEnd" "I" ∈ gTb := gm4 (List.mem_of_getElem? (i := 99) rfl) rfl
theorem tb_375 : Cond.methodLink R_M 179 y_M_nameAt ∈ gTb := gm5 (List.mem_of_getElem? (i := 79) rfl) rfl
theorem tb_376 : Cond.instanceMethod y_M_nameAt ∈ gTb := gm5 (List.mem_of_getElem? (i := 81) rfl) rfl
theorem tb_377 : Cond.selects R_M y_M_nameAt y_M_nameAt ∈ gTb := gmS (by decide +kernel) rfl
theorem tb_378 : Cond.fieldLink R_M 157 "GraphPagesModel" "open" "I" ∈ gTb := gm4 (List.mem_of_getElem? (i := 97) rfl) rfl
theorem tb_379 : Cond.fieldLink R_M 154 "GraphPagesModel" "at" "I" ∈ gTb := gm4 (List.mem_of_getElem? (i := 96) rfl) rfl
theorem tb_380 : Cond.fieldLink R_M 33 "GraphPagesModel" "name" "[I" ∈ gTb := gm4 (List.mem_of_getElem? (i := 84) rfl) rfl
theorem tb_381 : Cond.fieldLink R_M 36 "GraphPagesModel" "parent" "[I" ∈ gTb := gm4 (List.mem_of_getElem? (i := 85) rfl) rfl
theorem tb_382 : Cond.fieldLink R_M 160 "GraphPagesModel" "depth" "I" ∈ gTb := gm4 (List.mem_of_getElem? (i := 98) rfl) rfl
theorem tb_383 : Cond.fieldLink R_M 42 "GraphPagesModel" "attrCount" "[I" ∈ gTb := gm4 (List.mem_of_getElem? (i := 87) rfl) rfl
theorem tb_384 : Cond.fieldLink R_M 57 "GraphPagesModel" "attrName" "[I" ∈ gTb := gm4 (List.mem_of_getElem? (i := 93) rfl) rfl
theorem tb_385 : Cond.fieldLink R_M 39 "GraphPagesModel" "firstAttr" "[I" ∈ gTb := gm4 (List.mem_of_getElem? (i := 86) rfl) rfl
theorem tb_386 : Cond.methodLink R_M 185 y_M_attr ∈ gTb := gm5 (List.mem_of_getElem? (i := 91) rfl) rfl
theorem tb_387 : Cond.instanceMethod y_M_attr ∈ gTb := gm5 (List.mem_of_getElem? (i := 93) rfl) rfl
theorem tb_388 : Cond.selects R_M y_M_attr y_M_attr ∈ gTb := gmS (by decide +kernel) rfl
theorem tb_389 : Cond.fieldLink R_M 166 "GraphPagesModel" "attrs" "I" ∈ gTb := gm4 (List.mem_of_getElem? (i := 92) rfl) rfl
theorem tb_390 : Cond.fieldLink R_M 60 "GraphPagesModel" "attrFrom" "[I" ∈ gTb := gm4 (List.mem_of_getElem? (i := 94) rfl) rfl
theorem tb_391 : Cond.fieldLink R_M 63 "GraphPagesModel" "attrTo" "[I" ∈ gTb := gm4 (List.mem_of_getElem? (i := 95) rfl) rfl
theorem tb_392 : Cond.methodLink R_M 182 y_M_attributeAt ∈ gTb := gm5 (List.mem_of_getElem? (i := 87) rfl) rfl
theorem tb_393 : Cond.instanceMethod y_M_attributeAt ∈ gTb := gm5 (List.mem_of_getElem? (i := 89) rfl) rfl
theorem tb_394 : Cond.selects R_M y_M_attributeAt y_M_attributeAt ∈ gTb := gmS (by decide +kernel) rfl
theorem tb_395 : Cond.fieldLink R_M 163 "GraphPagesModel" "elements" "I" ∈ gTb := gm4 (List.mem_of_getElem? (i := 83) rfl) rfl
theorem tb_396 : Cond.fieldLink R_M 45 "GraphPagesModel" "textLength" "[I" ∈ gTb := gm4 (List.mem_of_getElem? (i := 88) rfl) rfl
theorem tb_397 : Cond.fieldLink R_M 48 "GraphPagesModel" "text" "[C" ∈ gTb := gm4 (List.mem_of_getElem? (i := 89) rfl) rfl
theorem tb_398 : Cond.methodLink R_M 169 y_M_end ∈ gTb := gm5 (List.mem_of_getElem? (i := 75) rfl) rfl
theorem tb_399 : Cond.instanceMethod y_M_end ∈ gTb := gm5 (List.mem_of_getElem? (i := 77) rfl) rfl
theorem tb_400 : Cond.selects R_M y_M_end y_M_end ∈ gTb := gmS (by decide +kernel) rfl
theorem tb_401 : Cond.methodLink R_M 176 y_M_content ∈ gTb := gm5 (List.mem_of_getElem? (i := 95) rfl) rfl
theorem tb_402 : Cond.instanceMethod y_M_content ∈ gTb := gm5 (List.mem_of_getElem? (i := 97) rfl) rfl
theorem tb_403 : Cond.selects R_M y_M_content y_M_content ∈ gTb := gmS (by decide +kernel) rfl
theorem tb_404 : Cond.methodLink R_M 173 y_M_start ∈ gTb := gm5 (List.mem_of_getElem? (i := 83) rfl) rfl
theorem tb_405 : Cond.instanceMethod y_M_start ∈ gTb := gm5 (List.mem_of_getElem? (i := 85) rfl) rfl
theorem tb_406 : Cond.selects R_M y_M_start y_M_start ∈ gTb := gmS (by decide +kernel) rfl
theorem tb_407 : Cond.methodLink R_M 188 y_M_countOf ∈ gTb := gm5 (List.mem_of_getElem? (i := 111) rfl) rfl
theorem tb_408 : Cond.instanceMethod y_M_countOf ∈ gTb := gm5 (List.mem_of_getElem? (i := 113) rfl) rfl
theorem tb_409 : Cond.selects R_M y_M_countOf y_M_countOf ∈ gTb := gmS (by decide +kernel) rfl
theorem tb_410 : Cond.methodLink R_M 197 y_M_isOne ∈ gTb := gm5 (List.mem_of_getElem? (i := 99) rfl) rfl
theorem tb_411 : Cond.instanceMethod y_M_isOne ∈ gTb := gm5 (List.mem_of_getElem? (i := 101) rfl) rfl
theorem tb_412 : Cond.selects R_M y_M_isOne y_M_isOne ∈ gTb := gmS (by decide +kernel) rfl
theorem tb_413 : Cond.methodLink R_M 200 y_M_countIn ∈ gTb := gm5 (List.mem_of_getElem? (i := 107) rfl) rfl
theorem tb_414 : Cond.instanceMethod y_M_countIn ∈ gTb := gm5 (List.mem_of_getElem? (i := 109) rfl) rfl
theorem tb_415 : Cond.selects R_M y_M_countIn y_M_countIn ∈ gTb := gmS (by decide +kernel) rfl
theorem tb_416 : Cond.fieldLink R_M 25 "GraphPagesModel" "known" "[Z" ∈ gTb := gm4 (List.mem_of_getElem? (i := 80) rfl) rfl
theorem tb_417 : Cond.methodLink R_M 203 y_M_isObject ∈ gTb := gm5 (List.mem_of_getElem? (i := 119) rfl) rfl
theorem tb_418 : Cond.instanceMethod y_M_isObject ∈ gTb := gm5 (List.mem_of_getElem? (i := 121) rfl) rfl
theorem tb_419 : Cond.selects R_M y_M_isObject y_M_isObject ∈ gTb := gmS (by decide +kernel) rfl
theorem tb_420 : Cond.constantLong R_M 191 1099511627776 ∈ gTb := gm5 (List.mem_of_getElem? (i := 139) rfl) rfl
theorem tb_421 : Cond.constantLong R_M 193 (-2147483648) ∈ gTb := gm5 (List.mem_of_getElem? (i := 140) rfl) rfl
theorem tb_422 : Cond.constantLong R_M 195 2147483647 ∈ gTb := gm5 (List.mem_of_getElem? (i := 141) rfl) rfl
theorem tb_423 : Cond.methodLink R_M 206 y_M_mayStand ∈ gTb := gm5 (List.mem_of_getElem? (i := 131) rfl) rfl
theorem tb_424 : Cond.instanceMethod y_M_mayStand ∈ gTb := gm5 (List.mem_of_getElem? (i := 133) rfl) rfl
theorem tb_425 : Cond.selects R_M y_M_mayStand y_M_mayStand ∈ gTb := gmS (by decide +kernel) rfl
theorem tb_426 : Cond.methodLink R_M 209 y_M_numberOf ∈ gTb := gm5 (List.mem_of_getElem? (i := 135) rfl) rfl
theorem tb_427 : Cond.instanceMethod y_M_numberOf ∈ gTb := gm5 (List.mem_of_getElem? (i := 137) rfl) rfl
theorem tb_428 : Cond.selects R_M y_M_numberOf y_M_numberOf ∈ gTb := gmS (by decide +kernel) rfl
theorem tb_429 : Cond.fieldLink R_M 51 "GraphPagesModel" "slot" "[I" ∈ gTb := gm4 (List.mem_of_getElem? (i := 90) rfl) rfl
theorem tb_430 : Cond.methodLink R_M 213 y_M_fits ∈ gTb := gm5 (List.mem_of_getElem? (i := 127) rfl) rfl
theorem tb_431 : Cond.instanceMethod y_M_fits ∈ gTb := gm5 (List.mem_of_getElem? (i := 129) rfl) rfl
theorem tb_432 : Cond.selects R_M y_M_fits y_M_fits ∈ gTb := gmS (by decide +kernel) rfl
theorem tb_433 : Cond.methodLink R_M 216 y_M_slots ∈ gTb := gm5 (List.mem_of_getElem? (i := 142) rfl) rfl
theorem tb_434 : Cond.instanceMethod y_M_slots ∈ gTb := gm5 (List.mem_of_getElem? (i := 144) rfl) rfl
theorem tb_435 : Cond.selects R_M y_M_slots y_M_slots ∈ gTb := gmS (by decide +kernel) rfl
theorem tb_436 : Cond.methodLink R_M 219 y_M_withId ∈ gTb := gm5 (List.mem_of_getElem? (i := 146) rfl) rfl
theorem tb_437 : Cond.instanceMethod y_M_withId ∈ gTb := gm5 (List.mem_of_getElem? (i := 148) rfl) rfl
theorem tb_438 : Cond.selects R_M y_M_withId y_M_withId ∈ gTb := gmS (by decide +kernel) rfl
theorem tb_439 : Cond.methodLink R_M 223 y_M_wellFormed ∈ gTb := gm5 (List.mem_of_getElem? (i := 67) rfl) rfl
theorem tb_440 : Cond.instanceMethod y_M_wellFormed ∈ gTb := gm5 (List.mem_of_getElem? (i := 69) rfl) rfl
theorem tb_441 : Cond.selects R_M y_M_wellFormed y_M_wellFormed ∈ gTb := gmS (by decide +kernel) rfl
theorem tb_442 : Cond.methodLink R_M 226 y_M_must ∈ gTb := gm5 (List.mem_of_getElem? (i := 103) rfl) rfl
theorem tb_443 : Cond.instanceMethod y_M_must ∈ gTb := gm5 (List.mem_of_getElem? (i := 105) rfl) rfl
theorem tb_444 : Cond.selects R_M y_M_must y_M_must ∈ gTb := gmS (by decide +kernel) rfl
theorem tb_445 : Cond.methodLink R_M 229 y_M_body ∈ gTb := gm5 (List.mem_of_getElem? (i := 115) rfl) rfl
theorem tb_446 : Cond.instanceMethod y_M_body ∈ gTb := gm5 (List.mem_of_getElem? (i := 117) rfl) rfl
theorem tb_447 : Cond.selects R_M y_M_body y_M_body ∈ gTb := gmS (by decide +kernel) rfl
theorem tb_448 : Cond.methodLink R_M 233 y_M_lawful ∈ gTb := gm5 (List.mem_of_getElem? (i := 123) rfl) rfl
theorem tb_449 : Cond.instanceMethod y_M_lawful ∈ gTb := gm5 (List.mem_of_getElem? (i := 125) rfl) rfl
theorem tb_450 : Cond.selects R_M y_M_lawful y_M_lawful ∈ gTb := gmS (by decide +kernel) rfl
theorem tb_451 : Cond.methodLink R_M 236 y_M_make ∈ gTb := gm5 (List.mem_of_getElem? (i := 150) rfl) rfl
theorem tb_452 : Cond.instanceMethod y_M_make ∈ gTb := gm4 (List.mem_of_getElem? (i := 181) rfl) rfl
theorem tb_453 : Cond.selects R_M y_M_make y_M_make ∈ gTb := gm4 (List.mem_of_getElem? (i := 182) rfl) rfl
theorem tb_454 : Cond.methodLink R_M 239 y_M_type ∈ gTb := gm5 (List.mem_of_getElem? (i := 151) rfl) rfl
theorem tb_455 : Cond.instanceMethod y_M_type ∈ gTb := gm4 (List.mem_of_getElem? (i := 185) rfl) rfl
theorem tb_456 : Cond.selects R_M y_M_type y_M_type ∈ gTb := gm4 (List.mem_of_getElem? (i := 186) rfl) rfl
theorem tb_457 : Cond.methodLink R_M 247 y_M_target ∈ gTb := gm5 (List.mem_of_getElem? (i := 153) rfl) rfl
theorem tb_458 : Cond.instanceMethod y_M_target ∈ gTb := gm5 (List.mem_of_getElem? (i := 155) rfl) rfl
theorem tb_459 : Cond.selects R_M y_M_target y_M_target ∈ gTb := gmS (by decide +kernel) rfl
theorem tb_460 : Cond.methodLink R_M 250 y_M_link ∈ gTb := gm5 (List.mem_of_getElem? (i := 157) rfl) rfl
theorem tb_461 : Cond.instanceMethod y_M_link ∈ gTb := gm4 (List.mem_of_getElem? (i := 201) rfl) rfl
theorem tb_462 : Cond.selects R_M y_M_link y_M_link ∈ gTb := gm4 (List.mem_of_getElem? (i := 202) rfl) rfl
theorem tb_463 : Cond.methodLink R_M 243 y_M_put ∈ gTb := gm5 (List.mem_of_getElem? (i := 152) rfl) rfl
theorem tb_464 : Cond.instanceMethod y_M_put ∈ gTb := gm4 (List.mem_of_getElem? (i := 193) rfl) rfl
theorem tb_465 : Cond.selects R_M y_M_put y_M_put ∈ gTb := gm4 (List.mem_of_getElem? (i := 194) rfl) rfl
theorem tb_466 : Cond.fieldLink R_M 54 "GraphPagesModel" "made" "[I" ∈ gTb := gm4 (List.mem_of_getElem? (i := 91) rfl) rfl
theorem tb_467 : Cond.methodLink R_G 3 objectInit ∈ gTb := gm1 (List.mem_of_getElem? (i := 30) rfl) rfl
theorem tb_468 : Cond.instanceMethod objectInit ∈ gTb := gm1 (List.mem_of_getElem? (i := 23) rfl) rfl
theorem tb_469 : Cond.arrayClass .int ∈ gTb := gm1 (List.mem_of_getElem? (i := 59) rfl) rfl
theorem tb_470 : Cond.arrayClass .char ∈ gTb := gm1 (List.mem_of_getElem? (i := 60) rfl) rfl
theorem tb_471 : Cond.methodLink R_P 3 objectInit ∈ gTb := gm1 (List.mem_of_getElem? (i := 66) rfl) rfl
theorem tb_472 : Cond.methodLink R_R 3 objectInit ∈ gTb := gm1 (List.mem_of_getElem? (i := 83) rfl) rfl
theorem tb_473 : Cond.methodLink R_A 3 objectInit ∈ gTb := gm1 (List.mem_of_getElem? (i := 103) rfl) rfl
theorem tb_474 : Cond.methodLink R_W 3 objectInit ∈ gTb := gm1 (List.mem_of_getElem? (i := 125) rfl) rfl
theorem tb_475 : Cond.methodLink R_E 3 objectInit ∈ gTb := gm1 (List.mem_of_getElem? (i := 150) rfl) rfl
theorem tb_476 : Cond.methodLink R_F 3 objectInit ∈ gTb := gm1 (List.mem_of_getElem? (i := 214) rfl) rfl
theorem tb_477 : Cond.methodLink R_H 7 objectInit ∈ gTb := gm1 (List.mem_of_getElem? (i := 236) rfl) rfl
theorem tb_478 : Cond.methodLink R_O 1 objectInit ∈ gTb := gm1 (List.mem_of_getElem? (i := 22) rfl) rfl
theorem tb_479 : Cond.instanceMethod y_G_init ∈ gTb := gm1 (List.mem_of_getElem? (i := 28) rfl) rfl
theorem tb_480 : Cond.instanceMethod y_P_init ∈ gTb := gm1 (List.mem_of_getElem? (i := 64) rfl) rfl
theorem tb_481 : Cond.instanceMethod y_E_init ∈ gTb := gm1 (List.mem_of_getElem? (i := 148) rfl) rfl
theorem tb_482 : Cond.classLink R_O 7 R_G ∈ gTb := gm1 (List.mem_of_getElem? (i := 25) rfl) rfl
theorem tb_483 : Cond.instantiable R_G 6 ∈ gTb := gm1 (List.mem_of_getElem? (i := 26) rfl) rfl
theorem tb_484 : Cond.classLink R_O 16 R_P ∈ gTb := gm1 (List.mem_of_getElem? (i := 61) rfl) rfl
theorem tb_485 : Cond.instantiable R_P 2 ∈ gTb := gm1 (List.mem_of_getElem? (i := 62) rfl) rfl
theorem tb_486 : Cond.arrayClass .boolean ∈ gTb := gm1 (List.mem_of_getElem? (i := 97) rfl) rfl
theorem tb_487 : Cond.classLink R_O 27 R_R ∈ gTb := gm1 (List.mem_of_getElem? (i := 78) rfl) rfl
theorem tb_488 : Cond.instantiable R_R 4 ∈ gTb := gm1 (List.mem_of_getElem? (i := 79) rfl) rfl
theorem tb_489 : Cond.methodLink R_O 29 y_R_init ∈ gTb := gm1 (List.mem_of_getElem? (i := 80) rfl) rfl
theorem tb_490 : Cond.instanceMethod y_R_init ∈ gTb := gm1 (List.mem_of_getElem? (i := 81) rfl) rfl
theorem tb_491 : Cond.classLink R_O 36 R_A ∈ gTb := gm1 (List.mem_of_getElem? (i := 98) rfl) rfl
theorem tb_492 : Cond.instantiable R_A 5 ∈ gTb := gm1 (List.mem_of_getElem? (i := 99) rfl) rfl
theorem tb_493 : Cond.methodLink R_O 38 y_A_init ∈ gTb := gm1 (List.mem_of_getElem? (i := 100) rfl) rfl
theorem tb_494 : Cond.instanceMethod y_A_init ∈ gTb := gm1 (List.mem_of_getElem? (i := 101) rfl) rfl
theorem tb_495 : Cond.classLink R_O 43 R_W ∈ gTb := gm1 (List.mem_of_getElem? (i := 120) rfl) rfl
theorem tb_496 : Cond.instantiable R_W 6 ∈ gTb := gm1 (List.mem_of_getElem? (i := 121) rfl) rfl
theorem tb_497 : Cond.methodLink R_O 45 y_W_init ∈ gTb := gm1 (List.mem_of_getElem? (i := 122) rfl) rfl
theorem tb_498 : Cond.instanceMethod y_W_init ∈ gTb := gm1 (List.mem_of_getElem? (i := 123) rfl) rfl
theorem tb_499 : Cond.classLink R_O 52 R_E ∈ gTb := gm1 (List.mem_of_getElem? (i := 145) rfl) rfl
theorem tb_500 : Cond.instantiable R_E 14 ∈ gTb := gm1 (List.mem_of_getElem? (i := 146) rfl) rfl
theorem tb_501 : Cond.classLink R_O 55 R_F ∈ gTb := gm1 (List.mem_of_getElem? (i := 209) rfl) rfl
theorem tb_502 : Cond.instantiable R_F 5 ∈ gTb := gm1 (List.mem_of_getElem? (i := 210) rfl) rfl
theorem tb_503 : Cond.methodLink R_O 57 y_F_init ∈ gTb := gm1 (List.mem_of_getElem? (i := 211) rfl) rfl
theorem tb_504 : Cond.instanceMethod y_F_init ∈ gTb := gm1 (List.mem_of_getElem? (i := 212) rfl) rfl
theorem tb_505 : Cond.classLink R_O 64 R_H ∈ gTb := gm1 (List.mem_of_getElem? (i := 231) rfl) rfl
theorem tb_506 : Cond.instantiable R_H 8 ∈ gTb := gm1 (List.mem_of_getElem? (i := 232) rfl) rfl
theorem tb_507 : Cond.methodLink R_O 66 y_H_init ∈ gTb := gm1 (List.mem_of_getElem? (i := 233) rfl) rfl
theorem tb_508 : Cond.instanceMethod y_H_init ∈ gTb := gm1 (List.mem_of_getElem? (i := 234) rfl) rfl
theorem tb_509 : Cond.methodLink R_M 1 objectInit ∈ gTb := gm4 (List.mem_of_getElem? (i := 73) rfl) rfl
theorem tb_510 : Cond.methodLink R_L 13 y_O_make ∈ gTb := gm2 (List.mem_of_getElem? (i := 47) rfl) rfl
theorem tb_511 : Cond.instanceMethod y_O_make ∈ gTb := gm2 (List.mem_of_getElem? (i := 48) rfl) rfl
theorem tb_512 : Cond.selects R_O y_O_make y_O_make ∈ gTb := gm2 (List.mem_of_getElem? (i := 49) rfl) rfl
theorem tb_513 : Cond.methodLink R_L 17 y_M_make ∈ gTb := gm4 (List.mem_of_getElem? (i := 180) rfl) rfl
theorem tb_514 : Cond.methodLink R_L 18 y_O_type ∈ gTb := gm2 (List.mem_of_getElem? (i := 63) rfl) rfl
theorem tb_515 : Cond.instanceMethod y_O_type ∈ gTb := gm2 (List.mem_of_getElem? (i := 64) rfl) rfl
theorem tb_516 : Cond.selects R_O y_O_type y_O_type ∈ gTb := gm2 (List.mem_of_getElem? (i := 65) rfl) rfl
theorem tb_517 : Cond.methodLink R_L 22 y_M_type ∈ gTb := gm4 (List.mem_of_getElem? (i := 184) rfl) rfl
theorem tb_518 : Cond.methodLink R_L 23 y_O_put ∈ gTb := gm2 (List.mem_of_getElem? (i := 82) rfl) rfl
theorem tb_519 : Cond.instanceMethod y_O_put ∈ gTb := gm2 (List.mem_of_getElem? (i := 83) rfl) rfl
theorem tb_520 : Cond.selects R_O y_O_put y_O_put ∈ gTb := gm2 (List.mem_of_getElem? (i := 84) rfl) rfl
theorem tb_521 : Cond.methodLink R_L 27 y_M_put ∈ gTb := gm4 (List.mem_of_getElem? (i := 192) rfl) rfl
theorem tb_522 : Cond.methodLink R_L 28 y_O_link ∈ gTb := gm2 (List.mem_of_getElem? (i := 91) rfl) rfl
theorem tb_523 : Cond.instanceMethod y_O_link ∈ gTb := gm2 (List.mem_of_getElem? (i := 92) rfl) rfl
theorem tb_524 : Cond.selects R_O y_O_link y_O_link ∈ gTb := gm2 (List.mem_of_getElem? (i := 93) rfl) rfl
theorem tb_525 : Cond.methodLink R_L 31 y_M_link ∈ gTb := gm4 (List.mem_of_getElem? (i := 200) rfl) rfl
theorem tb_526 : Cond.methodLink R_L 32 y_O_objects ∈ gTb := gm2 (List.mem_of_getElem? (i := 96) rfl) rfl
theorem tb_527 : Cond.instanceMethod y_O_objects ∈ gTb := gm2 (List.mem_of_getElem? (i := 97) rfl) rfl
theorem tb_528 : Cond.selects R_O y_O_objects y_O_objects ∈ gTb := gm2 (List.mem_of_getElem? (i := 98) rfl) rfl
theorem tb_529 : Cond.methodLink R_L 36 y_M_objects ∈ gTb := gm4 (List.mem_of_getElem? (i := 204) rfl) rfl
theorem tb_530 : Cond.instanceMethod y_M_objects ∈ gTb := gm4 (List.mem_of_getElem? (i := 205) rfl) rfl
theorem tb_531 : Cond.selects R_M y_M_objects y_M_objects ∈ gTb := gm4 (List.mem_of_getElem? (i := 206) rfl) rfl
theorem tb_532 : Cond.methodLink R_L 37 y_O_kind ∈ gTb := gm2 (List.mem_of_getElem? (i := 100) rfl) rfl
theorem tb_533 : Cond.instanceMethod y_O_kind ∈ gTb := gm2 (List.mem_of_getElem? (i := 101) rfl) rfl
theorem tb_534 : Cond.selects R_O y_O_kind y_O_kind ∈ gTb := gm2 (List.mem_of_getElem? (i := 102) rfl) rfl
theorem tb_535 : Cond.methodLink R_L 41 y_M_kind ∈ gTb := gm4 (List.mem_of_getElem? (i := 208) rfl) rfl
theorem tb_536 : Cond.instanceMethod y_M_kind ∈ gTb := gm4 (List.mem_of_getElem? (i := 209) rfl) rfl
theorem tb_537 : Cond.selects R_M y_M_kind y_M_kind ∈ gTb := gm4 (List.mem_of_getElem? (i := 210) rfl) rfl
theorem tb_538 : Cond.methodLink R_L 42 y_O_size ∈ gTb := gm2 (List.mem_of_getElem? (i := 104) rfl) rfl
theorem tb_539 : Cond.instanceMethod y_O_size ∈ gTb := gm2 (List.mem_of_getElem? (i := 105) rfl) rfl
theorem tb_540 : Cond.selects R_O y_O_size y_O_size ∈ gTb := gm2 (List.mem_of_getElem? (i := 106) rfl) rfl
theorem tb_541 : Cond.methodLink R_L 45 y_M_size ∈ gTb := gm4 (List.mem_of_getElem? (i := 212) rfl) rfl
theorem tb_542 : Cond.instanceMethod y_M_size ∈ gTb := gm4 (List.mem_of_getElem? (i := 213) rfl) rfl
theorem tb_543 : Cond.selects R_M y_M_size y_M_size ∈ gTb := gm4 (List.mem_of_getElem? (i := 214) rfl) rfl
theorem tb_544 : Cond.methodLink R_L 46 y_O_holds ∈ gTb := gm2 (List.mem_of_getElem? (i := 108) rfl) rfl
theorem tb_545 : Cond.instanceMethod y_O_holds ∈ gTb := gm2 (List.mem_of_getElem? (i := 109) rfl) rfl
theorem tb_546 : Cond.selects R_O y_O_holds y_O_holds ∈ gTb := gm2 (List.mem_of_getElem? (i := 110) rfl) rfl
theorem tb_547 : Cond.methodLink R_L 49 y_M_holds ∈ gTb := gm4 (List.mem_of_getElem? (i := 216) rfl) rfl
theorem tb_548 : Cond.methodLink R_L 50 y_O_value ∈ gTb := gm2 (List.mem_of_getElem? (i := 116) rfl) rfl
theorem tb_549 : Cond.instanceMethod y_O_value ∈ gTb := gm2 (List.mem_of_getElem? (i := 117) rfl) rfl
theorem tb_550 : Cond.selects R_O y_O_value y_O_value ∈ gTb := gm2 (List.mem_of_getElem? (i := 118) rfl) rfl
theorem tb_551 : Cond.methodLink R_L 53 y_M_value ∈ gTb := gm4 (List.mem_of_getElem? (i := 220) rfl) rfl
theorem tb_552 : Cond.instanceMethod y_M_value ∈ gTb := gm4 (List.mem_of_getElem? (i := 221) rfl) rfl
theorem tb_553 : Cond.selects R_M y_M_value y_M_value ∈ gTb := gm4 (List.mem_of_getElem? (i := 222) rfl) rfl
theorem tb_554 : Cond.methodLink R_L 54 y_O_alike ∈ gTb := gm2 (List.mem_of_getElem? (i := 128) rfl) rfl
theorem tb_555 : Cond.instanceMethod y_O_alike ∈ gTb := gm2 (List.mem_of_getElem? (i := 129) rfl) rfl
theorem tb_556 : Cond.selects R_O y_O_alike y_O_alike ∈ gTb := gm2 (List.mem_of_getElem? (i := 130) rfl) rfl
theorem tb_557 : Cond.methodLink R_L 58 y_M_alike ∈ gTb := gm4 (List.mem_of_getElem? (i := 228) rfl) rfl
theorem tb_558 : Cond.instanceMethod y_M_alike ∈ gTb := gm4 (List.mem_of_getElem? (i := 229) rfl) rfl
theorem tb_559 : Cond.selects R_M y_M_alike y_M_alike ∈ gTb := gm4 (List.mem_of_getElem? (i := 230) rfl) rfl
theorem tb_560 : Cond.methodLink R_L 59 y_O_shared ∈ gTb := gm2 (List.mem_of_getElem? (i := 163) rfl) rfl
theorem tb_561 : Cond.instanceMethod y_O_shared ∈ gTb := gm2 (List.mem_of_getElem? (i := 164) rfl) rfl
theorem tb_562 : Cond.selects R_O y_O_shared y_O_shared ∈ gTb := gm2 (List.mem_of_getElem? (i := 165) rfl) rfl
theorem tb_563 : Cond.methodLink R_L 62 y_M_shared ∈ gTb := gm4 (List.mem_of_getElem? (i := 236) rfl) rfl
theorem tb_564 : Cond.instanceMethod y_M_shared ∈ gTb := gm4 (List.mem_of_getElem? (i := 237) rfl) rfl
theorem tb_565 : Cond.selects R_M y_M_shared y_M_shared ∈ gTb := gm4 (List.mem_of_getElem? (i := 238) rfl) rfl
theorem tb_566 : Cond.methodLink R_L 63 y_O_encode ∈ gTb := gm2 (List.mem_of_getElem? (i := 191) rfl) rfl
theorem tb_567 : Cond.instanceMethod y_O_encode ∈ gTb := gm2 (List.mem_of_getElem? (i := 192) rfl) rfl
theorem tb_568 : Cond.selects R_O y_O_encode y_O_encode ∈ gTb := gm2 (List.mem_of_getElem? (i := 193) rfl) rfl
theorem tb_569 : Cond.methodLink R_L 66 y_M_encode ∈ gTb := gm5 (List.mem_of_getElem? (i := 5) rfl) rfl
theorem tb_570 : Cond.instanceMethod y_M_encode ∈ gTb := gm5 (List.mem_of_getElem? (i := 6) rfl) rfl
theorem tb_571 : Cond.selects R_M y_M_encode y_M_encode ∈ gTb := gm5 (List.mem_of_getElem? (i := 7) rfl) rfl
theorem tb_572 : Cond.methodLink R_L 67 y_O_decode ∈ gTb := gm3 (List.mem_of_getElem? (i := 80) rfl) rfl
theorem tb_573 : Cond.instanceMethod y_O_decode ∈ gTb := gm3 (List.mem_of_getElem? (i := 81) rfl) rfl
theorem tb_574 : Cond.selects R_O y_O_decode y_O_decode ∈ gTb := gm3 (List.mem_of_getElem? (i := 82) rfl) rfl
theorem tb_575 : Cond.methodLink R_L 70 y_M_decode ∈ gTb := gm5 (List.mem_of_getElem? (i := 63) rfl) rfl
theorem tb_576 : Cond.instanceMethod y_M_decode ∈ gTb := gm5 (List.mem_of_getElem? (i := 64) rfl) rfl
theorem tb_577 : Cond.selects R_M y_M_decode y_M_decode ∈ gTb := gm5 (List.mem_of_getElem? (i := 65) rfl) rfl
theorem tb_578 : Cond.methodLink R_L 71 y_O_clear ∈ gTb := gm4 (List.mem_of_getElem? (i := 38) rfl) rfl
theorem tb_579 : Cond.instanceMethod y_O_clear ∈ gTb := gm4 (List.mem_of_getElem? (i := 39) rfl) rfl
theorem tb_580 : Cond.selects R_O y_O_clear y_O_clear ∈ gTb := gm4 (List.mem_of_getElem? (i := 40) rfl) rfl
theorem tb_581 : Cond.methodLink R_L 74 y_M_clear ∈ gTb := gm4 (List.mem_of_getElem? (i := 224) rfl) rfl
theorem tb_582 : Cond.instanceMethod y_M_clear ∈ gTb := gm4 (List.mem_of_getElem? (i := 225) rfl) rfl
theorem tb_583 : Cond.selects R_M y_M_clear y_M_clear ∈ gTb := gm4 (List.mem_of_getElem? (i := 226) rfl) rfl
theorem tb_584 : Cond.methodLink R_L 75 y_O_understand ∈ gTb := gm4 (List.mem_of_getElem? (i := 42) rfl) rfl
theorem tb_585 : Cond.instanceMethod y_O_understand ∈ gTb := gm4 (List.mem_of_getElem? (i := 43) rfl) rfl
theorem tb_586 : Cond.selects R_O y_O_understand y_O_understand ∈ gTb := gm4 (List.mem_of_getElem? (i := 44) rfl) rfl
theorem tb_587 : Cond.methodLink R_L 79 y_M_understand ∈ gTb := gm5 (List.mem_of_getElem? (i := 59) rfl) rfl
theorem tb_588 : Cond.instanceMethod y_M_understand ∈ gTb := gm5 (List.mem_of_getElem? (i := 60) rfl) rfl
theorem tb_589 : Cond.selects R_M y_M_understand y_M_understand ∈ gTb := gm5 (List.mem_of_getElem? (i := 61) rfl) rfl
theorem tb_590 : Cond.methodLink R_L 80 y_O_length ∈ gTb := gm4 (List.mem_of_getElem? (i := 46) rfl) rfl
theorem tb_591 : Cond.instanceMethod y_O_length ∈ gTb := gm4 (List.mem_of_getElem? (i := 47) rfl) rfl
theorem tb_592 : Cond.selects R_O y_O_length y_O_length ∈ gTb := gm4 (List.mem_of_getElem? (i := 48) rfl) rfl
theorem tb_593 : Cond.methodLink R_L 83 y_M_length ∈ gTb := gm5 (List.mem_of_getElem? (i := 39) rfl) rfl
theorem tb_594 : Cond.instanceMethod y_M_length ∈ gTb := gm5 (List.mem_of_getElem? (i := 40) rfl) rfl
theorem tb_595 : Cond.selects R_M y_M_length y_M_length ∈ gTb := gm5 (List.mem_of_getElem? (i := 41) rfl) rfl
theorem tb_596 : Cond.methodLink R_L 84 y_O_charAt ∈ gTb := gm4 (List.mem_of_getElem? (i := 50) rfl) rfl
theorem tb_597 : Cond.instanceMethod y_O_charAt ∈ gTb := gm4 (List.mem_of_getElem? (i := 51) rfl) rfl
theorem tb_598 : Cond.selects R_O y_O_charAt y_O_charAt ∈ gTb := gm4 (List.mem_of_getElem? (i := 52) rfl) rfl
theorem tb_599 : Cond.methodLink R_L 87 y_M_charAt ∈ gTb := gm5 (List.mem_of_getElem? (i := 43) rfl) rfl
theorem tb_600 : Cond.instanceMethod y_M_charAt ∈ gTb := gm5 (List.mem_of_getElem? (i := 44) rfl) rfl
theorem tb_601 : Cond.selects R_M y_M_charAt y_M_charAt ∈ gTb := gm5 (List.mem_of_getElem? (i := 45) rfl) rfl
theorem tb_602 : Cond.methodLink R_L 88 y_O_feed ∈ gTb := gm4 (List.mem_of_getElem? (i := 55) rfl) rfl
theorem tb_603 : Cond.instanceMethod y_O_feed ∈ gTb := gm4 (List.mem_of_getElem? (i := 56) rfl) rfl
theorem tb_604 : Cond.selects R_O y_O_feed y_O_feed ∈ gTb := gm4 (List.mem_of_getElem? (i := 57) rfl) rfl
theorem tb_605 : Cond.methodLink R_L 92 y_M_feed ∈ gTb := gm5 (List.mem_of_getElem? (i := 47) rfl) rfl
theorem tb_606 : Cond.instanceMethod y_M_feed ∈ gTb := gm5 (List.mem_of_getElem? (i := 48) rfl) rfl
theorem tb_607 : Cond.selects R_M y_M_feed y_M_feed ∈ gTb := gm5 (List.mem_of_getElem? (i := 49) rfl) rfl
theorem tb_608 : Cond.methodLink R_L 93 y_O_alter ∈ gTb := gm4 (List.mem_of_getElem? (i := 60) rfl) rfl
theorem tb_609 : Cond.instanceMethod y_O_alter ∈ gTb := gm4 (List.mem_of_getElem? (i := 61) rfl) rfl
theorem tb_610 : Cond.selects R_O y_O_alter y_O_alter ∈ gTb := gm4 (List.mem_of_getElem? (i := 62) rfl) rfl
theorem tb_611 : Cond.methodLink R_L 96 y_M_alter ∈ gTb := gm5 (List.mem_of_getElem? (i := 51) rfl) rfl
theorem tb_612 : Cond.instanceMethod y_M_alter ∈ gTb := gm5 (List.mem_of_getElem? (i := 52) rfl) rfl
theorem tb_613 : Cond.selects R_M y_M_alter y_M_alter ∈ gTb := gm5 (List.mem_of_getElem? (i := 53) rfl) rfl
theorem tb_614 : Cond.methodLink R_L 97 y_O_cut ∈ gTb := gm4 (List.mem_of_getElem? (i := 64) rfl) rfl
theorem tb_615 : Cond.instanceMethod y_O_cut ∈ gTb := gm4 (List.mem_of_getElem? (i := 65) rfl) rfl
theorem tb_616 : Cond.selects R_O y_O_cut y_O_cut ∈ gTb := gm4 (List.mem_of_getElem? (i := 66) rfl) rfl
theorem tb_617 : Cond.methodLink R_L 101 y_M_cut ∈ gTb := gm5 (List.mem_of_getElem? (i := 55) rfl) rfl
theorem tb_618 : Cond.instanceMethod y_M_cut ∈ gTb := gm5 (List.mem_of_getElem? (i := 56) rfl) rfl
theorem tb_619 : Cond.selects R_M y_M_cut y_M_cut ∈ gTb := gm5 (List.mem_of_getElem? (i := 57) rfl) rfl
theorem tb_620 : Cond.classLink R_L 7 R_O ∈ gTb := gm1 (List.mem_of_getElem? (i := 17) rfl) rfl
theorem tb_621 : Cond.instantiable R_O 8 ∈ gTb := gm1 (List.mem_of_getElem? (i := 18) rfl) rfl
theorem tb_622 : Cond.methodLink R_L 9 y_O_init ∈ gTb := gm1 (List.mem_of_getElem? (i := 19) rfl) rfl
theorem tb_623 : Cond.instanceMethod y_O_init ∈ gTb := gm1 (List.mem_of_getElem? (i := 20) rfl) rfl
theorem tb_624 : Cond.classLink R_L 10 R_M ∈ gTb := gm4 (List.mem_of_getElem? (i := 68) rfl) rfl
theorem tb_625 : Cond.instantiable R_M 35 ∈ gTb := gm4 (List.mem_of_getElem? (i := 69) rfl) rfl
theorem tb_626 : Cond.methodLink R_L 12 y_M_init ∈ gTb := gm4 (List.mem_of_getElem? (i := 70) rfl) rfl
theorem tb_627 : Cond.instanceMethod y_M_init ∈ gTb := gm4 (List.mem_of_getElem? (i := 71) rfl) rfl
end
section
/-! My own base: cells replaced in their places; one contract form for methods that make nothing; rows for entry, return and calls -/
def gset : va_W → List Nat → va_W → va_W
  | ws, i :: is, x :: xs => gset (ws.set i x) is xs
  | ws, _, _ => ws
theorem gset_get : ∀ (is : List Nat) (xs ws : va_W), is.length = xs.length → ∀ (k : Nat) (q : Nat × va_E), (gset ws is xs)[k]? = some q → (∃ j : Nat, xs[j]? = some q) ∨ (ws[k]? = some q ∧ k ∉ is) := by
  intro is
  induction is with
  | nil =>
    intro xs ws _ k q h
    exact Or.inr ⟨by simpa [gset] using h, List.not_mem_nil⟩
  | cons i is ih =>
    intro xs ws hl k q h
    cases xs with
    | nil => cases hl
    | cons x xs =>
      have hl' : is.length = xs.length := by simpa using hl
      rcases ih xs (ws.set i x) hl' k q h with ⟨j, hj⟩ | ⟨h1, h2⟩
      · exact Or.inl ⟨j + 1, by simpa using hj⟩
      · rw [List.getElem?_set] at h1
        by_cases hik : i = k
        · rw [if_pos hik] at h1
          by_cases hlt : i < ws.length
          · rw [if_pos hlt] at h1
            exact Or.inl ⟨0, by simpa using h1⟩
          · rw [if_neg hlt] at h1
            cases h1
        · rw [if_neg hik] at h1
          refine Or.inr ⟨h1, fun hm => ?_⟩
          rcases List.mem_cons.mp hm with h3 | h3
          · exact hik h3.symm
          · exact h2 h3
theorem g_fst {ws ws' : va_W} (h : ws'.map (fun q => q.1) = ws.map (fun q => q.1)) {k : Nat} {q : Nat × va_E} (hq : ws'[k]? = some q) : ∃ q0 : Nat × va_E, ws[k]? = some q0 ∧ q0.1 = q.1 := by
  have h1 : (ws.map (fun q => q.1))[k]? = some q.1 := by rw [← h, List.getElem?_map, hq]; rfl
  rw [List.getElem?_map] at h1
  cases h2 : ws[k]? with
  | none => rw [h2] at h1; cases h1
  | some q0 => rw [h2] at h1; exact ⟨q0, rfl, Option.some.inj h1⟩
theorem g_D {A : Nat → Prop} {ws ws' : va_W} (hD : va_D A ws) (h : ws'.map (fun q => q.1) = ws.map (fun q => q.1)) : va_D A ws' := by
  refine ⟨fun i j p q hp hq he => ?_, fun k q hq => ?_⟩
  · obtain ⟨p0, a1, a2⟩ := g_fst h hp
    obtain ⟨q0, b1, b2⟩ := g_fst h hq
    exact hD.1 i j p0 q0 a1 b1 (by rw [a2, b2, he])
  · obtain ⟨q0, b1, b2⟩ := g_fst h hq
    rw [← b2]
    exact hD.2 k q0 b1
theorem g_join {A0 : Nat → Prop} {D : va_G} {cl : List vw_C} {ws wc w1 : va_W} {H H1 : Heap} (hP : va_P D cl ws H) (hD : va_D A0 ws) (is : List Nat) (hC : is.map (fun i => ws[i]?) = wc.map some) (ha : (gset ws is w1).map (fun q => q.1) = ws.map (fun q => q.1)) (hl : is.length = w1.length)
    (hk : ∀ q : Nat, q < H.size → ¬ va_A wc H.size q → H1[q]? = H[q]?) (hP1 : va_P D cl w1 H1) : va_P D cl (gset ws is w1) H1 ∧ va_D A0 (gset ws is w1) := by
  refine ⟨fun k q hq => ?_, g_D hD ha⟩
  rcases gset_get is w1 ws hl k q hq with ⟨j, h1⟩ | ⟨h1, h2⟩
  · exact hP1 j q h1
  · have hlt := (hP k q h1).lt
    refine (hP k q h1).kept (hk q.1 hlt fun h => ?_)
    rcases h with ⟨k2, e, h⟩ | h
    · have h3 : (is.map (fun i => ws[i]?))[k2]? = some (some (q.1, e)) := by rw [hC, List.getElem?_map, h]; rfl
      rw [List.getElem?_map] at h3
      cases hi : is[k2]? with
      | none => rw [hi] at h3; cases h3
      | some i =>
        rw [hi] at h3
        have h4 := hD.1 i k (q.1, e) q (Option.some.inj h3) h1 rfl
        subst h4
        exact h2 (List.mem_of_getElem? hi)
    · omega
/-- the nest mates' links, which no list of words carries -/
def gN (U : State) : Prop := ∀ q ∈ gNs, va_Nw (.methodLinkNest q.1 q.2.1 q.2.2.1 q.2.2.2) U
theorem gN.warm {s U : State} (h : gN s) (hW : s.WarmedH U.vm) : gN U := fun q hq => va_Nw.warmM hW (h q hq)
theorem gN.same {u U : State} (h : gN u) (hv : u.vm = U.vm) : gN U := fun q hq => va_Nw.same rfl hv (h q hq)
theorem gG {big : List Cond} (hb : ∀ w ∈ gTb, w ∈ big) {c : Cond} (h : c ∈ gTb) : GoodIn big (c :: gTb) := fun w hw => by
  rcases List.mem_cons.mp hw with rfl | hw
  · exact ⟨hb _ h, good_of_word (List.mem_filter.mp h).2⟩
  · exact ⟨hb _ hw, good_of_word (List.mem_filter.mp hw).2⟩
theorem gG4 {big : List Cond} (hb : ∀ w ∈ gTb, w ∈ big) {a b c d e : Cond} (ha : a ∈ gTb) (hb1 : b ∈ gTb) (hc : c ∈ gTb) (hd : d ∈ gTb) (h : e ∈ gTb) : GoodIn big ([a, b, c, d] ++ (e :: gTb)) := fun w hw => by
  rcases List.mem_append.mp hw with hw | hw
  · have hg : w ∈ gTb := by
      simp only [List.mem_cons, List.not_mem_nil, or_false] at hw
      rcases hw with rfl | rfl | rfl | rfl <;> assumption
    exact ⟨hb _ hg, good_of_word (List.mem_filter.mp hg).2⟩
  · exact gG hb h w hw
theorem gG3 {big : List Cond} (hb : ∀ w ∈ gTb, w ∈ big) {a b c e : Cond} (ha : a ∈ gTb) (hb1 : b ∈ gTb) (hc : c ∈ gTb) (h : e ∈ gTb) : GoodIn big ([a, b, c] ++ (e :: gTb)) := fun w hw => by
  rcases List.mem_append.mp hw with hw | hw
  · have hg : w ∈ gTb := by
      simp only [List.mem_cons, List.not_mem_nil, or_false] at hw
      rcases hw with rfl | rfl | rfl <;> assumption
    exact ⟨hb _ hg, good_of_word (List.mem_filter.mp hg).2⟩
  · exact gG hb h w hw
theorem g_fm {α : Type} : ∀ (is : List Nat) (f : Nat → Option α) (wc : List α), is.map f = wc.map some → is.filterMap f = wc := by
  intro is
  induction is with
  | nil =>
    intro f wc h
    cases wc with
    | nil => rfl
    | cons x xs => cases h
  | cons i is ih =>
    intro f wc h
    cases wc with
    | nil => cases h
    | cons x xs =>
      rw [List.map_cons, List.map_cons] at h
      injection h with h1 h2
      rw [List.filterMap_cons, h1]
      show x :: is.filterMap f = x :: xs
      rw [ih f xs h2]
/-- a contract's start: the cells ws, the array classes T -/
abbrev gPc (X : va_G) (cl : List vw_C) (T : List (ClassId × FieldType)) (ws : va_W) (sz : Nat) (av : List Value) : Array Value → State → Prop := va_Pc av (fun U => U.heap.size = sz ∧ va_P X cl ws U.heap ∧ va_K X cl T U ∧ va_D (fun _ => True) ws ∧ gN U)
abbrev gQi (X : va_G) (cl : List vw_C) (ws : va_W) (sz : Nat) {S : Type} (post : Int32 → S → Prop) (w1 : S → va_W) : Array Value → State → Outcome → State → Prop := va_Qi post (fun u t => va_P X cl (w1 u) t.heap) (va_A ws sz)
abbrev gQl (X : va_G) (cl : List vw_C) (ws : va_W) (sz : Nat) {S : Type} (post : Int64 → S → Prop) (w1 : S → va_W) : Array Value → State → Outcome → State → Prop := va_Ql post (fun u t => va_P X cl (w1 u) t.heap) (va_A ws sz)
abbrev gQv (X : va_G) (cl : List vw_C) (ws : va_W) (sz : Nat) {S : Type} (post : S → Prop) (w1 : S → va_W) : Array Value → State → Outcome → State → Prop := va_Qv post (fun u t => va_P X cl (w1 u) t.heap) (va_A ws sz)
/-- a constructor's end: the cells come with their being apart -/
abbrev gQn (X : va_G) (cl : List vw_C) (ws : va_W) (sz : Nat) {S : Type} (post : S → Prop) (w1 : S → va_W) : Array Value → State → Outcome → State → Prop := va_Qv post (fun u t => va_P X cl (w1 u) t.heap ∧ va_D (va_A ws sz) (w1 u)) (va_A ws sz)
theorem g_met {l : Launch} {y : MethodName} {ws ws' : List Cond} {rm : Room} {Qc : Array Value → State → Outcome → State → Prop} {mc ms : Nat} {free : Addr → Prop} {cc : ByteArray} {maxL : Nat} {ret : Option FieldType} {X : va_G} {cl : List vw_C} {T : List (ClassId × FieldType)} {WS : va_W} {sz : Nat} {av : List Value}
    (hy : plainName y.cls = true) (hw : ws = Cond.code y cc maxL ret :: ws') (hn : (lg_sl av).length ≤ maxL)
    (body : ∀ (p : Program) (e : Env) (s : State) (m : MethodId) (below : List Frame) (meth : Method) (c : Code) (A : Nat → Prop) (ls : Array Slot), p.tables.exec = Jvm.exec → c.code = cc → meth.sig.returnType = ret → c.maxLocals = maxL → s.vm.findClass y.cls = some m.cls → (∀ w ∈ ws, w.before av.toArray s = true) → meth.locks = false → meth.name = y.name → s.heap.size = sz → A = va_A WS sz → (∀ q : Nat, s.heap.size ≤ q → A q) → va_P X cl WS s.heap → va_K X cl T s → va_D A WS → va_S A s.heap s.heap [] → lv_has ls maxL (lv_args 0 av) → gN s →
      W p l e (headSpec ws rm).room s m av.toArray below meth c s.heap [] 0 0 (MQ below Qc av.toArray s mc ms free) (F0 m 0 ls [])) : Met l y ws rm (gPc X cl T WS sz av) Qc mc ms free := by
  refine Met.ofW (cc := cc) (maxL := maxL) (ret := ret) hy hw ?_
  intro p e s m args below meth c s₁ B hml hv
  obtain ⟨rfl, hsz, hP, hK, hD0, hN⟩ := hv
  have hl := lv_entry av (n := maxL) hn
  rw [lg_entry_eq]
  exact body p e s m below meth c (va_A WS sz) _ B.exec B.bytes B.returns hml (findClass_of_methodNamed B.named) (atoms_spec (ws := ws) B.pre) B.notSynchronized (name_of_methodNamed B.named B.method).1 hsz rfl (fun q h => Or.inr (by rw [← hsz]; exact h)) hP hK (hD0.self (sz := sz)) va_S.rf hl hN
section G1
variable {p : Program} {l : Launch} {e : Env} {R : Room} {s : State} {m : MethodId} {args : Array Value} {below : List Frame} {meth : Method} {c : Code} {H H0 : Heap} {locs : List Loc} {cells slots : Nat} {Q : State → Prop}
variable {X : va_G} {cl : List vw_C} {T : List (ClassId × FieldType)} {ws wc WS : va_W} {A : Nat → Prop} {sz : Nat} {cc : ByteArray} {pc : Nat} {ls : Array Slot} {S : Type}
theorem g_zret {post : Int32 → S → Prop} {w1 : S → va_W} {v : Int32} {ty : FieldType} (hx : p.tables.exec = Jvm.exec) (hb : c.code = cc) (hr : meth.sig.returnType = some ty) (hlocks : meth.locks = false) (hn : narrow ty (.int v) = .int v) (hAe : A = va_A WS sz) (hS : va_S A s.heap H locs) (u : S) (hpost : post v u) (hP : va_P X cl (w1 u) H) (hdg : decode cc pc = .ok (.ireturn, 1)) : W p l e R s m args below meth c H locs cells slots (MQ below (gQi X cl WS sz post w1) args s cells slots (va_A WS sz)) (F0 m pc ls [.int v]) := by
  subst hAe
  exact W.zret hx hb hr hn (fun t ht _ => ⟨⟨v, u, rfl, hpost, (by show va_P X cl (w1 u) t.heap; rw [ht]; exact hP)⟩, hS.F ht⟩) hS.2.2 hdg hlocks
theorem g_lret {post : Int64 → S → Prop} {w1 : S → va_W} {v : Int64} (hx : p.tables.exec = Jvm.exec) (hb : c.code = cc) (hr : meth.sig.returnType = some .long) (hlocks : meth.locks = false) (hAe : A = va_A WS sz) (hS : va_S A s.heap H locs) (u : S) (hpost : post v u) (hP : va_P X cl (w1 u) H) (hdg : decode cc pc = .ok (.lreturn, 1)) : W p l e R s m args below meth c H locs cells slots (MQ below (gQl X cl WS sz post w1) args s cells slots (va_A WS sz)) (F0 m pc ls [.long v]) := by
  subst hAe
  exact W.lret hx hb hr (fun t ht _ => ⟨⟨v, u, rfl, hpost, (by show va_P X cl (w1 u) t.heap; rw [ht]; exact hP)⟩, hS.F ht⟩) hS.2.2 hdg hlocks
theorem g_vret {post : S → Prop} {w1 : S → va_W} (hx : p.tables.exec = Jvm.exec) (hb : c.code = cc) (hr : meth.sig.returnType = none) (hlocks : meth.locks = false) (hAe : A = va_A WS sz) (hS : va_S A s.heap H locs) (u : S) (hpost : post u) (hP : va_P X cl (w1 u) H) (hdg : decode cc pc = .ok (.return_, 1)) : W p l e R s m args below meth c H locs cells slots (MQ below (gQv X cl WS sz post w1) args s cells slots (va_A WS sz)) (F0 m pc ls []) := by
  subst hAe
  exact W.vret hx hb hr (fun t ht _ => ⟨⟨u, rfl, hpost, (by show va_P X cl (w1 u) t.heap; rw [ht]; exact hP)⟩, hS.F ht⟩) hS.2.2 hdg hlocks
theorem g_nret {post : S → Prop} {w1 : S → va_W} (hx : p.tables.exec = Jvm.exec) (hb : c.code = cc) (hr : meth.sig.returnType = none) (hlocks : meth.locks = false) (hAe : A = va_A WS sz) (hS : va_S A s.heap H locs) (u : S) (hpost : post u) (hP : va_P X cl (w1 u) H) (hD : va_D A (w1 u)) (hdg : decode cc pc = .ok (.return_, 1)) : W p l e R s m args below meth c H locs cells slots (MQ below (gQn X cl WS sz post w1) args s cells slots (va_A WS sz)) (F0 m pc ls []) := by
  subst hAe
  exact W.vret hx hb hr (fun t ht _ => ⟨⟨u, rfl, hpost, (by show va_P X cl (w1 u) t.heap ∧ va_D (va_A WS sz) (w1 u); rw [ht]; exact ⟨hP, hD⟩)⟩, hS.F ht⟩) hS.2.2 hdg hlocks
theorem g_preS {av : List Value} (hN : gN s) (hK : va_K X cl T s) (hP : va_P X cl ws H) (hD : va_D A ws) (is : List Nat) (hC : is.map (fun i => ws[i]?) = wc.map some) (hnd : va_nd is = true) : PreS s H (gPc X cl T wc H.size av) av := by
  refine ⟨fun a U g mk q => ?_, fun U hU hW => ⟨rfl, by rw [hU], by rw [hU]; exact hP.sub is (g_fm is _ wc hC), va_K.moved hW.alike hK, (hD.sub is hnd hC).weaken (fun _ _ _ _ => trivial), hN.warm hW⟩⟩
  obtain ⟨q0, q1, qP, qK, qD, qN⟩ := q
  exact ⟨q0, q1, qP, va_K.moved (u := U) (U := U.calling g mk a) (Vm.Alike.refl U.vm) qK, qD, qN.same rfl⟩
theorem g_preV {b : Nat} {As : List Value} {C : String} {TT : u_T} {N q0 ci : Nat} {fs : List Value} (hN : gN s) (hK : va_K X cl T s) (hP : va_P X cl ws H) (hD : va_D A ws) (is : List Nat) (hC : is.map (fun i => ws[i]?) = wc.map some) (hnd : va_nd is = true) (hq : ws[q0]? = some (b, .inr (ci, fs))) (hc : cl[ci]? = some (C, TT, N)) : PreV s H C b (gPc X cl T wc H.size (.ref b :: As)) As := by
  have h := g_preS (av := .ref b :: As) hN hK hP hD is hC hnd
  exact ⟨h.1, va_recv hK hP hc hq, h.2⟩
theorem g_goi {post : Int32 → S → Prop} {w1 : S → va_W} {st0 rest : List Value} {a : Array Value} (hr : va_Run p l e R s m args below meth c H locs cells slots 0 0 (F0 m pc ls st0) rest (gQi X cl wc H.size post w1 a) (va_A wc H.size)) (hP : va_P X cl ws H) (hD : va_D A ws) (hS : va_S A H0 H locs) (hA : ∀ q : Nat, H0.size ≤ q → A q) (is : List Nat) (hC : is.map (fun i => ws[i]?) = wc.map some) (ha : ∀ u, (gset ws is (w1 u)).map (fun q => q.1) = ws.map (fun q => q.1)) (hl : ∀ u, is.length = (w1 u).length)
    (kk : ∀ (r : Int32) (u : S) (H1 : Heap) (locs1 : List Loc), post r u → va_P X cl (gset ws is (w1 u)) H1 → va_D A (gset ws is (w1 u)) → va_S A H0 H1 locs1 → W p l e R s m args below meth c H1 locs1 cells slots Q (F0 m (pc + 3) ls (.int r :: rest))) : W p l e R s m args below meth c H locs cells slots Q (F0 m pc ls st0) := by
  have hF := va_free (wc := wc) hD hS hA is hC
  refine va_calli hr hS (fun q _ h => hF q h) hF (fun r u t H1 locs1 ht hvm hp hB hz1 hk1 hS1 => ?_)
  rw [ht] at hB
  have hj := g_join hP hD is hC (ha u) (hl u) hk1 hB
  exact kk r u H1 locs1 hp hj.1 hj.2 hS1
theorem g_gol {post : Int64 → S → Prop} {w1 : S → va_W} {st0 rest : List Value} {a : Array Value} (hr : va_Run p l e R s m args below meth c H locs cells slots 0 0 (F0 m pc ls st0) rest (gQl X cl wc H.size post w1 a) (va_A wc H.size)) (hP : va_P X cl ws H) (hD : va_D A ws) (hS : va_S A H0 H locs) (hA : ∀ q : Nat, H0.size ≤ q → A q) (is : List Nat) (hC : is.map (fun i => ws[i]?) = wc.map some) (ha : ∀ u, (gset ws is (w1 u)).map (fun q => q.1) = ws.map (fun q => q.1)) (hl : ∀ u, is.length = (w1 u).length)
    (kk : ∀ (r : Int64) (u : S) (H1 : Heap) (locs1 : List Loc), post r u → va_P X cl (gset ws is (w1 u)) H1 → va_D A (gset ws is (w1 u)) → va_S A H0 H1 locs1 → W p l e R s m args below meth c H1 locs1 cells slots Q (F0 m (pc + 3) ls (.long r :: rest))) : W p l e R s m args below meth c H locs cells slots Q (F0 m pc ls st0) := by
  have hF := va_free (wc := wc) hD hS hA is hC
  refine va_calll hr hS (fun q _ h => hF q h) hF (fun r u t H1 locs1 ht hvm hp hB hz1 hk1 hS1 => ?_)
  rw [ht] at hB
  have hj := g_join hP hD is hC (ha u) (hl u) hk1 hB
  exact kk r u H1 locs1 hp hj.1 hj.2 hS1
theorem g_gov {post : S → Prop} {w1 : S → va_W} {st0 rest : List Value} {a : Array Value} (hr : va_Run p l e R s m args below meth c H locs cells slots 0 0 (F0 m pc ls st0) rest (gQv X cl wc H.size post w1 a) (va_A wc H.size)) (hP : va_P X cl ws H) (hD : va_D A ws) (hS : va_S A H0 H locs) (hA : ∀ q : Nat, H0.size ≤ q → A q) (is : List Nat) (hC : is.map (fun i => ws[i]?) = wc.map some) (ha : ∀ u, (gset ws is (w1 u)).map (fun q => q.1) = ws.map (fun q => q.1)) (hl : ∀ u, is.length = (w1 u).length)
    (kk : ∀ (u : S) (H1 : Heap) (locs1 : List Loc), post u → va_P X cl (gset ws is (w1 u)) H1 → va_D A (gset ws is (w1 u)) → va_S A H0 H1 locs1 → W p l e R s m args below meth c H1 locs1 cells slots Q (F0 m (pc + 3) ls rest)) : W p l e R s m args below meth c H locs cells slots Q (F0 m pc ls st0) := by
  have hF := va_free (wc := wc) hD hS hA is hC
  refine va_callv hr hS (fun q _ h => hF q h) hF (fun u t H1 locs1 ht hvm hp hB hz1 hk1 hS1 => ?_)
  rw [ht] at hB
  have hj := g_join hP hD is hC (ha u) (hl u) hk1 hB
  exact kk u H1 locs1 hp hj.1 hj.2 hS1
theorem g_gon {post : S → Prop} {w1 : S → va_W} {st0 rest : List Value} {a : Array Value} {mc ms : Nat} {wr : va_W} (hr : va_Run p l e R s m args below meth c H locs cells slots mc ms (F0 m pc ls st0) rest (gQn X cl wc H.size post w1 a) (va_A wc H.size)) (hP : va_P X cl ws H) (hD : va_D A ws) (hS : va_S A H0 H locs) (hA : ∀ q : Nat, H0.size ≤ q → A q) (isC isR : List Nat) (hC : isC.map (fun i => ws[i]?) = wc.map some) (hR : isR.map (fun i => ws[i]?) = wr.map some) (hn : va_nd isR = true) (hdis : ∀ i ∈ isR, i ∉ isC)
    (kk : ∀ (u : S) (H1 : Heap) (locs1 : List Loc), post u → va_P X cl (wr ++ w1 u) H1 → va_D A (wr ++ w1 u) → va_S A H0 H1 locs1 → W p l e R s m args below meth c H1 locs1 (cells + mc) (slots + ms) Q (F0 m (pc + 3) ls rest)) : W p l e R s m args below meth c H locs cells slots Q (F0 m pc ls st0) := by
  have hF := va_free (wc := wc) hD hS hA isC hC
  refine va_callv hr hS (fun q _ h => hF q h) hF (fun u t H1 locs1 ht hvm hp hB hz1 hk1 hS1 => ?_)
  rw [ht] at hB
  obtain ⟨hP1, hD1⟩ := va_join hP hD isC isR hC hR hn hdis hk1 hF hB.1 hB.2
  exact kk u H1 locs1 hp hP1 hD1 hS1
/-- an array whose class the world knows already -/
theorem g_newa (hexec : p.tables.exec = Jvm.exec) (hb : c.code = cc) {atype : ArrayType} (harr : (Cond.arrayClass (newarray.typeOf atype)).before args s = true) {ty : FieldType} (hty : newarray.typeOf atype = ty) (hK : va_K X cl T s) (hP : va_P X cl ws H) (hD : va_D A ws) (hS : va_S A H0 H locs) (hA : ∀ q : Nat, H0.size ≤ q → A q)
    {n : Int32} {N' : Nat} {a0 : vp_A} {rest : List Value} (t0 : Nat) {cA : ClassId} (ht : T[t0]? = some (cA, ty)) (hp : ∀ C, ty ≠ .object C) (ha : ∀ cA : ClassId, vp_cell cA a0 = arrV cA N' (fun _ => defaultValue ty)) (hn : ¬ n < 0) (hN : n.toNatClampNeg = N') (hbytes : N' * componentBytes ty ≤ 536870912) (hcells : cells + 1 ≤ R.cells) (hslots : slots + N' ≤ R.slots) (hdg : decode cc pc = .ok (.newarray atype, 2))
    (kk : ∀ (q : Nat) (H1 : Heap), va_P X cl (ws ++ [(q, .inl (cA, a0))]) H1 → va_D A (ws ++ [(q, .inl (cA, a0))]) → va_S A H0 H1 locs →
      W p l e R s m args below meth c H1 locs (cells + 1) (slots + N') Q (F0 m (pc + 2) ls (.ref q :: rest))) : W p l e R s m args below meth c H locs cells slots Q (F0 m pc ls (.int n :: rest)) := by
  refine va_newa hexec hb harr hty hK hP hD hS hA ha hn hN hbytes hcells hslots hdg (fun q cB H1 hK1 hP1 hD1 hS1 => ?_)
  have h1 := (hK.2 t0 _ ht).2
  have h2 : va_RA s cB ty := (hK1.2 T.length (cB, ty) (by rw [List.getElem?_append_right (Nat.le_refl _)]; simp)).2
  have h3 : cB = cA := by
    cases ty with
    | object C => exact absurd rfl (hp C)
    | _ => exact Option.some.inj (h2.symm.trans h1)
  subst h3
  exact kk q H1 hP1 hD1 hS1
end G1
def bI (b : Bool) : Int32 := if b then 1 else 0
theorem bI_0 {b : Bool} (h : bI b = 0) : b = false := by cases b with | false => rfl | true => exact absurd h (by decide)
theorem bI_1 {b : Bool} (h : ¬ bI b = 0) : b = true := by cases b with | true => rfl | false => exact absurd rfl h
theorem bI_nz (b : Bool) : narrow .boolean (.int (bI b)) = .int (bI b) := by cases b <;> rfl
theorem g_in {x : Int32} {n N : Nat} (h1 : ¬ x < 0) (h2 : ¬ nI n ≤ x) (hn : n ≤ N) (hN : N < 2 ^ 31) : ∃ j : Nat, j < n ∧ x = nI j ∧ vp_in x N := by
  obtain ⟨j, a, b, -⟩ := pk_mu h1 h2 (Nat.lt_of_le_of_lt hn hN)
  exact ⟨j, a, b, by rw [b]; exact vp_in_nI (Nat.lt_of_lt_of_le a hn) hN⟩
theorem g_x4 (j i : Nat) : nI j * 4 + nI i = nI (4 * j + i) := by
  rw [show (4 : Int32) = nI 4 from rfl, pk_mul, nI_add, Nat.mul_comm]
theorem g_x6 (j i : Nat) : nI j * 6 + nI i = nI (6 * j + i) := by
  rw [show (6 : Int32) = nI 6 from rfl, pk_mul, nI_add, Nat.mul_comm]
theorem g_4x (j i : Nat) : 4 * nI j + nI i = nI (4 * j + i) := by
  rw [show (4 : Int32) = nI 4 from rfl, pk_mul, nI_add]
theorem g_6x (j i : Nat) : 6 * nI j + nI i = nI (6 * j + i) := by
  rw [show (6 : Int32) = nI 6 from rfl, pk_mul, nI_add]
theorem g_arr {s : State} {args : Array Value} {ty : FieldType} (h : (Cond.arrayClass ty).before args s = true) (hp : ∀ C, ty ≠ .object C) : ∃ cA : ClassId, ArrOfT s cA ty ∧ va_RA s cA ty := by
  obtain ⟨cA, kA, comp, h1, h2, h3⟩ := Cond.arrayClass_spec h
  refine ⟨cA, fun n z => ⟨fun k h => (by cases h), kA, h2, comp, h3⟩, ?_⟩
  cases ty with
  | object C => exact absurd rfl (hp C)
  | _ => exact h1
theorem g_known {ws : List Cond} {s : State} {args : Array Value} (hts : ∀ w ∈ ws, w.before args s = true) : ∀ cl : List vw_C, (∀ q ∈ cl, (∀ w ∈ u_ws q.1 q.2.1 q.2.2, w ∈ ws) ∧ Cond.instantiable q.1 q.2.2 ∈ ws) → ∃ X : va_G, ∀ (c : Nat) (q : vw_C), cl[c]? = some q → u_Kn s q.1 q.2.1 q.2.2 (X.1 c) (X.2 c) := by
  intro cl
  induction cl with
  | nil => exact fun _ => ⟨(fun _ => 0, fun _ _ => 0), fun c q h => by simp at h⟩
  | cons q0 cl ih =>
    intro h
    obtain ⟨X, hX⟩ := ih (fun q hq => h q (List.mem_cons_of_mem _ hq))
    obtain ⟨h1, h2⟩ := h q0 List.mem_cons_self
    obtain ⟨c0, i0, h0⟩ := u_known hts h1 (hts _ h2)
    refine ⟨(fun c => match c with | 0 => c0 | c + 1 => X.1 c, fun c => match c with | 0 => i0 | c + 1 => X.2 c), fun c q hq => ?_⟩
    cases c with
    | zero =>
      have e : q0 = q := by simpa using hq
      subst e
      exact h0
    | succ c => exact hX c q (by simpa using hq)
end
section
/-! Cells of the class and of the reference, and the small tests, as words -/
abbrev gT (cI cC cZ : ClassId) : List (ClassId × FieldType) := [(cI, .int), (cC, .char), (cZ, .boolean)]
abbrev kI (c : ClassId) (q N : Nat) (f : Nat → Int32) : Nat × va_E := (q, .inl (c, N, .inl f))
def pHas (n x : Int32) : Bool := !decide (x < 0) && !decide (n ≤ x)
def pTxt (n : Int32) (K : Nat → Int32) (x : Int32) : Bool := pHas n x && decide (K x.toNatClampNeg = 2)
def pSlt (n : Int32) (K Z : Nat → Int32) (x k : Int32) : Bool := pHas n x && (!decide (K x.toNatClampNeg = 2) && (!decide (k < 0) && !decide (Z x.toNatClampNeg ≤ k)))
def pPrt (c : Int32) : Bool := !decide (c < 32) && !decide (126 < c)
theorem pHas_in {n N : Nat} {x : Int32} (h : pHas (nI n) x = true) (hn : n ≤ N) (hN : N < 2 ^ 31) : ∃ j : Nat, j < n ∧ x = nI j ∧ vp_in x N := by
  simp only [pHas, Bool.and_eq_true, Bool.not_eq_true', decide_eq_false_iff_not] at h
  exact g_in h.1 h.2 hn hN
theorem pSlt_1 {n : Int32} {K Z : Nat → Int32} {x k : Int32} (h : pSlt n K Z x k = true) : pHas n x = true ∧ ¬ K x.toNatClampNeg = 2 ∧ ¬ k < 0 ∧ ¬ Z x.toNatClampNeg ≤ k := by
  simpa only [pSlt, Bool.and_eq_true, Bool.not_eq_true', decide_eq_false_iff_not] using h
theorem pTxt_1 {n : Int32} {K : Nat → Int32} {x : Int32} (h : pTxt n K x = true) : pHas n x = true ∧ K x.toNatClampNeg = 2 := by
  simpa only [pTxt, Bool.and_eq_true, decide_eq_true_eq] using h
/-- the four slots of a row emptied -/
def gLay (C : Nat → Int32) (j : Nat) : Nat → Int32 := upd (upd (upd (upd C (4 * j + 0) 0) (4 * j + 1) 0) (4 * j + 2) 0) (4 * j + 3) 0
def pMk (n : Nat) (x z : Int32) : Bool := decide (n < 16) && (decide (x = 0) || ((decide (x = 1) && (!decide (z < 0) && !decide (4 < z))) || decide (x = 2)))
def pMz (x z : Int32) : Int32 := if x = 0 then 2 else if x = 1 then z else 0
theorem pMz_0 (z : Int32) : pMz 0 z = 2 := by simp [pMz]
theorem pMz_1 (z : Int32) : pMz 1 z = z := by simp [pMz]
theorem pMz_2 (z : Int32) : pMz 2 z = 0 := by simp [pMz]
def pTy (n : Int32) (K Z : Nat → Int32) (x ch : Int32) : Bool := pTxt n K x && (pPrt ch && decide (Z x.toNatClampNeg < 6))
def pUn (U : Nat → Int32) (k y : Int32) : Bool := !decide (k < 0) && (!decide (32 ≤ k) && !decide (U k.toNatClampNeg = y))
def pFd (ed : Nat) (ch : Int32) : Bool := pPrt ch && decide (ed < 1600)
def pAl (ed : Nat) (x ch : Int32) : Bool := pHas (nI ed) x && pPrt ch
def pCt (ed : Nat) (x : Int32) : Bool := !decide (x < 0) && !decide (nI ed < x)
def ix4 (x k : Int32) : Nat := 4 * x.toNatClampNeg + k.toNatClampNeg
def ix6 (x k : Int32) : Nat := 6 * x.toNatClampNeg + k.toNatClampNeg
theorem ix4_n {j i : Nat} (hj : j < 2 ^ 31) (hi : i < 2 ^ 31) : ix4 (nI j) (nI i) = 4 * j + i := by rw [ix4, nI_clamp hj, nI_clamp hi]
theorem ix6_n {j i : Nat} (hj : j < 2 ^ 31) (hi : i < 2 ^ 31) : ix6 (nI j) (nI i) = 6 * j + i := by rw [ix6, nI_clamp hj, nI_clamp hi]
/-- sizes of slot objects and of texts are in their bounds -/
def okZ (n : Nat) (K Z : Nat → Int32) : Prop := (∀ j, j < n → ¬ K j = 2 → ∃ z : Nat, z ≤ 4 ∧ Z j = nI z) ∧ ∀ j, j < n → K j = 2 → ∃ z : Nat, z ≤ 6 ∧ Z j = nI z
def okT (T : Nat → Int32) : Prop := ∀ q, narrow .char (.int (T q)) = .int (T q)
theorem pSlt_in {n : Nat} {K Z : Nat → Int32} {x k : Int32} (h : pSlt (nI n) K Z x k = true) (hn : n ≤ 16) (hz : okZ n K Z) : ∃ j i : Nat, j < n ∧ i < 4 ∧ x = nI j ∧ k = nI i := by
  obtain ⟨h1, h2, h3, h4⟩ := pSlt_1 h
  obtain ⟨j, hj, rfl, -⟩ := pHas_in h1 hn (by decide)
  rw [nI_clamp (by omega)] at h2 h4
  obtain ⟨z, z4, hz⟩ := hz.1 j hj h2
  rw [hz] at h4
  obtain ⟨i, hi, rfl, -⟩ := pk_mu h3 h4 (by omega)
  exact ⟨j, i, hj, by omega, rfl, rfl⟩
theorem p3 {x : Int32} (h : ¬ x < 0) (h2 : ¬ 2 < x) : x = 0 ∨ x = 1 ∨ x = 2 := by
  obtain ⟨j, hj, rfl⟩ := nI_of2 (M := 2) (n := 2) (by decide) h (Int32.not_lt.mp h2)
  rcases (show j = 0 ∨ j = 1 ∨ j = 2 by omega) with rfl | rfl | rfl
  · exact Or.inl rfl
  · exact Or.inr (Or.inl rfl)
  · exact Or.inr (Or.inr rfl)
theorem p31 {k : Int32} (h : ¬ 31 < k) : ¬ 32 ≤ k := fun q => h (by
  rw [Int32.lt_iff_toInt_lt]
  rw [Int32.le_iff_toInt_le] at q
  exact Int.lt_of_lt_of_le (by decide) q)
theorem p31b {k : Int32} (h : 31 < k) : 32 ≤ k := by
  rw [Int32.lt_iff_toInt_lt] at h
  rw [Int32.le_iff_toInt_le]
  exact h
theorem p31c {k : Int32} (h : 32 ≤ k) : 31 < k := by
  rw [Int32.le_iff_toInt_le] at h
  rw [Int32.lt_iff_toInt_lt]
  exact Int.lt_of_lt_of_le (by decide) h
theorem p31d {k : Int32} (h : ¬ 32 ≤ k) : ¬ 31 < k := fun q => h (p31b q)
end
section
abbrev gS : Type := (Nat → Int32) × (Nat → Nat → Int32)
def sI (σ : gS) (k : Nat) (x : Int32) : gS := (upd σ.1 k x, σ.2)
def sA (σ : gS) (k : Nat) (f : Nat → Int32) : gS := (σ.1, fun j => if j = k then f else σ.2 j)
def z0 : gS := (fun _ => 0, fun _ _ => 0)
def cW (cI cC cZ : ClassId) (a : Nat → Nat) (σ : gS) : va_W := [(a 0, .inr (8, [.ref (a 1), .ref (a 7), .ref (a 9), .ref (a 10), .ref (a 13), .ref (a 17), .ref (a 32), .ref (a 33)])), (a 1, .inr (2, [.int (σ.1 0), .ref (a 2), .ref (a 3), .ref (a 4), .ref (a 5), .ref (a 6)])), (a 2, .inl (cI, 16, .inl (σ.2 2))), (a 3, .inl (cI, 16, .inl (σ.2 3))), (a 4, .inl (cI, 64, .inl (σ.2 4))), (a 5, .inl (cI, 64, .inl (σ.2 5))), (a 6, .inl (cC, 96, .inl (σ.2 6))), (a 7, .inr (5, [.int (σ.1 1), .ref (a 8)])), (a 8, .inl (cC, 1600, .inl (σ.2 8))), (a 9, .inl (cZ, 32, .inl (σ.2 9))), (a 10, .inr (6, [.ref (a 1), .ref (a 11), .ref (a 12), .int (σ.1 2)])), (a 11, .inl (cI, 16, .inl (σ.2 11))), (a 12, .inl (cI, 16, .inl (σ.2 12))), (a 13, .inr (4, [.ref (a 1), .ref (a 14), .ref (a 15), .ref (a 16), .int (σ.1 3)])), (a 14, .inl (cI, 16, .inl (σ.2 14))), (a 15, .inl (cI, 16, .inl (σ.2 15))), (a 16, .inl (cI, 16, .inl (σ.2 16))), (a 17, .inr (7, [.ref (a 1), .ref (a 10), .ref (a 7), .ref (a 18), .ref (a 19), .int (σ.1 4)])), (a 18, .inl (cI, 16, .inl (σ.2 18))), (a 19, .inl (cI, 16, .inl (σ.2 19))), (a 20, .inr (0, [.int (σ.1 5), .ref (a 21), .ref (a 22), .ref (a 23), .ref (a 24), .ref (a 25), .ref (a 26), .ref (a 27), .int (σ.1 6), .ref (a 28), .ref (a 29), .ref (a 30), .int (σ.1 7), .ref (a 31)])), (a 21, .inl (cI, 533, .inl (σ.2 21))), (a 22, .inl (cI, 533, .inl (σ.2 22))), (a 23, .inl (cI, 533, .inl (σ.2 23))), (a 24, .inl (cI, 533, .inl (σ.2 24))), (a 25, .inl (cI, 533, .inl (σ.2 25))), (a 26, .inl (cI, 533, .inl (σ.2 26))), (a 27, .inl (cI, 533, .inl (σ.2 27))), (a 28, .inl (cI, 320, .inl (σ.2 28))), (a 29, .inl (cI, 320, .inl (σ.2 29))), (a 30, .inl (cI, 320, .inl (σ.2 30))), (a 31, .inl (cC, 1600, .inl (σ.2 31))), (a 32, .inr (1, [.ref (a 7), .ref (a 20), .int (σ.1 8), .int (σ.1 9), .int (σ.1 10)])), (a 33, .inr (3, [.ref (a 7), .ref (a 20), .ref (a 1), .ref (a 34), .ref (a 35), .ref (a 36), .ref (a 37), .int (σ.1 11)])), (a 34, .inl (cI, 533, .inl (σ.2 34))), (a 35, .inl (cI, 100, .inl (σ.2 35))), (a 36, .inl (cI, 16, .inl (σ.2 36))), (a 37, .inl (cI, 16, .inl (σ.2 37)))]
theorem cW_fst {cI cC cZ : ClassId} {a : Nat → Nat} {σ σ' : gS} : (cW cI cC cZ a σ').map (fun q => q.1) = (cW cI cC cZ a σ).map (fun q => q.1) := rfl
theorem gc_0 {cI cC cZ : ClassId} {a : Nat → Nat} {σ : gS} : (cW cI cC cZ a σ)[0]? = some (a 0, .inr (8, [.ref (a 1), .ref (a 7), .ref (a 9), .ref (a 10), .ref (a 13), .ref (a 17), .ref (a 32), .ref (a 33)])) := rfl
theorem gc_1 {cI cC cZ : ClassId} {a : Nat → Nat} {σ : gS} : (cW cI cC cZ a σ)[1]? = some (a 1, .inr (2, [.int (σ.1 0), .ref (a 2), .ref (a 3), .ref (a 4), .ref (a 5), .ref (a 6)])) := rfl
theorem sc_1_0 {cI cC cZ : ClassId} {a : Nat → Nat} {σ : gS} {x : Int32} : (cW cI cC cZ a σ).set 1 (a 1, .inr (2, ([.int (σ.1 0), .ref (a 2), .ref (a 3), .ref (a 4), .ref (a 5), .ref (a 6)] : List Value).set 0 (.int x))) = cW cI cC cZ a (sI σ 0 x) := rfl
theorem gc_2 {cI cC cZ : ClassId} {a : Nat → Nat} {σ : gS} : (cW cI cC cZ a σ)[2]? = some (a 2, .inl (cI, 16, .inl (σ.2 2))) := rfl
theorem sc_2 {cI cC cZ : ClassId} {a : Nat → Nat} {σ : gS} {f : Nat → Int32} : (cW cI cC cZ a σ).set 2 (a 2, .inl (cI, 16, .inl f)) = cW cI cC cZ a (sA σ 2 f) := rfl
theorem gc_3 {cI cC cZ : ClassId} {a : Nat → Nat} {σ : gS} : (cW cI cC cZ a σ)[3]? = some (a 3, .inl (cI, 16, .inl (σ.2 3))) := rfl
theorem sc_3 {cI cC cZ : ClassId} {a : Nat → Nat} {σ : gS} {f : Nat → Int32} : (cW cI cC cZ a σ).set 3 (a 3, .inl (cI, 16, .inl f)) = cW cI cC cZ a (sA σ 3 f) := rfl
theorem gc_4 {cI cC cZ : ClassId} {a : Nat → Nat} {σ : gS} : (cW cI cC cZ a σ)[4]? = some (a 4, .inl (cI, 64, .inl (σ.2 4))) := rfl
theorem sc_4 {cI cC cZ : ClassId} {a : Nat → Nat} {σ : gS} {f : Nat → Int32} : (cW cI cC cZ a σ).set 4 (a 4, .inl (cI, 64, .inl f)) = cW cI cC cZ a (sA σ 4 f) := rfl
theorem gc_5 {cI cC cZ : ClassId} {a : Nat → Nat} {σ : gS} : (cW cI cC cZ a σ)[5]? = some (a 5, .inl (cI, 64, .inl (σ.2 5))) := rfl
theorem sc_5 {cI cC cZ : ClassId} {a : Nat → Nat} {σ : gS} {f : Nat → Int32} : (cW cI cC cZ a σ).set 5 (a 5, .inl (cI, 64, .inl f)) = cW cI cC cZ a (sA σ 5 f) := rfl
theorem gc_6 {cI cC cZ : ClassId} {a : Nat → Nat} {σ : gS} : (cW cI cC cZ a σ)[6]? = some (a 6, .inl (cC, 96, .inl (σ.2 6))) := rfl
theorem sc_6 {cI cC cZ : ClassId} {a : Nat → Nat} {σ : gS} {f : Nat → Int32} : (cW cI cC cZ a σ).set 6 (a 6, .inl (cC, 96, .inl f)) = cW cI cC cZ a (sA σ 6 f) := rfl
theorem gc_7 {cI cC cZ : ClassId} {a : Nat → Nat} {σ : gS} : (cW cI cC cZ a σ)[7]? = some (a 7, .inr (5, [.int (σ.1 1), .ref (a 8)])) := rfl
theorem sc_7_0 {cI cC cZ : ClassId} {a : Nat → Nat} {σ : gS} {x : Int32} : (cW cI cC cZ a σ).set 7 (a 7, .inr (5, ([.int (σ.1 1), .ref (a 8)] : List Value).set 0 (.int x))) = cW cI cC cZ a (sI σ 1 x) := rfl
theorem gc_8 {cI cC cZ : ClassId} {a : Nat → Nat} {σ : gS} : (cW cI cC cZ a σ)[8]? = some (a 8, .inl (cC, 1600, .inl (σ.2 8))) := rfl
theorem sc_8 {cI cC cZ : ClassId} {a : Nat → Nat} {σ : gS} {f : Nat → Int32} : (cW cI cC cZ a σ).set 8 (a 8, .inl (cC, 1600, .inl f)) = cW cI cC cZ a (sA σ 8 f) := rfl
theorem gc_9 {cI cC cZ : ClassId} {a : Nat → Nat} {σ : gS} : (cW cI cC cZ a σ)[9]? = some (a 9, .inl (cZ, 32, .inl (σ.2 9))) := rfl
theorem sc_9 {cI cC cZ : ClassId} {a : Nat → Nat} {σ : gS} {f : Nat → Int32} : (cW cI cC cZ a σ).set 9 (a 9, .inl (cZ, 32, .inl f)) = cW cI cC cZ a (sA σ 9 f) := rfl
theorem gc_10 {cI cC cZ : ClassId} {a : Nat → Nat} {σ : gS} : (cW cI cC cZ a σ)[10]? = some (a 10, .inr (6, [.ref (a 1), .ref (a 11), .ref (a 12), .int (σ.1 2)])) := rfl
theorem sc_10_3 {cI cC cZ : ClassId} {a : Nat → Nat} {σ : gS} {x : Int32} : (cW cI cC cZ a σ).set 10 (a 10, .inr (6, ([.ref (a 1), .ref (a 11), .ref (a 12), .int (σ.1 2)] : List Value).set 3 (.int x))) = cW cI cC cZ a (sI σ 2 x) := rfl
theorem gc_11 {cI cC cZ : ClassId} {a : Nat → Nat} {σ : gS} : (cW cI cC cZ a σ)[11]? = some (a 11, .inl (cI, 16, .inl (σ.2 11))) := rfl
theorem sc_11 {cI cC cZ : ClassId} {a : Nat → Nat} {σ : gS} {f : Nat → Int32} : (cW cI cC cZ a σ).set 11 (a 11, .inl (cI, 16, .inl f)) = cW cI cC cZ a (sA σ 11 f) := rfl
theorem gc_12 {cI cC cZ : ClassId} {a : Nat → Nat} {σ : gS} : (cW cI cC cZ a σ)[12]? = some (a 12, .inl (cI, 16, .inl (σ.2 12))) := rfl
theorem sc_12 {cI cC cZ : ClassId} {a : Nat → Nat} {σ : gS} {f : Nat → Int32} : (cW cI cC cZ a σ).set 12 (a 12, .inl (cI, 16, .inl f)) = cW cI cC cZ a (sA σ 12 f) := rfl
theorem gc_13 {cI cC cZ : ClassId} {a : Nat → Nat} {σ : gS} : (cW cI cC cZ a σ)[13]? = some (a 13, .inr (4, [.ref (a 1), .ref (a 14), .ref (a 15), .ref (a 16), .int (σ.1 3)])) := rfl
theorem sc_13_4 {cI cC cZ : ClassId} {a : Nat → Nat} {σ : gS} {x : Int32} : (cW cI cC cZ a σ).set 13 (a 13, .inr (4, ([.ref (a 1), .ref (a 14), .ref (a 15), .ref (a 16), .int (σ.1 3)] : List Value).set 4 (.int x))) = cW cI cC cZ a (sI σ 3 x) := rfl
theorem gc_14 {cI cC cZ : ClassId} {a : Nat → Nat} {σ : gS} : (cW cI cC cZ a σ)[14]? = some (a 14, .inl (cI, 16, .inl (σ.2 14))) := rfl
theorem sc_14 {cI cC cZ : ClassId} {a : Nat → Nat} {σ : gS} {f : Nat → Int32} : (cW cI cC cZ a σ).set 14 (a 14, .inl (cI, 16, .inl f)) = cW cI cC cZ a (sA σ 14 f) := rfl
theorem gc_15 {cI cC cZ : ClassId} {a : Nat → Nat} {σ : gS} : (cW cI cC cZ a σ)[15]? = some (a 15, .inl (cI, 16, .inl (σ.2 15))) := rfl
theorem sc_15 {cI cC cZ : ClassId} {a : Nat → Nat} {σ : gS} {f : Nat → Int32} : (cW cI cC cZ a σ).set 15 (a 15, .inl (cI, 16, .inl f)) = cW cI cC cZ a (sA σ 15 f) := rfl
theorem gc_16 {cI cC cZ : ClassId} {a : Nat → Nat} {σ : gS} : (cW cI cC cZ a σ)[16]? = some (a 16, .inl (cI, 16, .inl (σ.2 16))) := rfl
theorem sc_16 {cI cC cZ : ClassId} {a : Nat → Nat} {σ : gS} {f : Nat → Int32} : (cW cI cC cZ a σ).set 16 (a 16, .inl (cI, 16, .inl f)) = cW cI cC cZ a (sA σ 16 f) := rfl
theorem gc_17 {cI cC cZ : ClassId} {a : Nat → Nat} {σ : gS} : (cW cI cC cZ a σ)[17]? = some (a 17, .inr (7, [.ref (a 1), .ref (a 10), .ref (a 7), .ref (a 18), .ref (a 19), .int (σ.1 4)])) := rfl
theorem sc_17_5 {cI cC cZ : ClassId} {a : Nat → Nat} {σ : gS} {x : Int32} : (cW cI cC cZ a σ).set 17 (a 17, .inr (7, ([.ref (a 1), .ref (a 10), .ref (a 7), .ref (a 18), .ref (a 19), .int (σ.1 4)] : List Value).set 5 (.int x))) = cW cI cC cZ a (sI σ 4 x) := rfl
theorem gc_18 {cI cC cZ : ClassId} {a : Nat → Nat} {σ : gS} : (cW cI cC cZ a σ)[18]? = some (a 18, .inl (cI, 16, .inl (σ.2 18))) := rfl
theorem sc_18 {cI cC cZ : ClassId} {a : Nat → Nat} {σ : gS} {f : Nat → Int32} : (cW cI cC cZ a σ).set 18 (a 18, .inl (cI, 16, .inl f)) = cW cI cC cZ a (sA σ 18 f) := rfl
theorem gc_19 {cI cC cZ : ClassId} {a : Nat → Nat} {σ : gS} : (cW cI cC cZ a σ)[19]? = some (a 19, .inl (cI, 16, .inl (σ.2 19))) := rfl
theorem sc_19 {cI cC cZ : ClassId} {a : Nat → Nat} {σ : gS} {f : Nat → Int32} : (cW cI cC cZ a σ).set 19 (a 19, .inl (cI, 16, .inl f)) = cW cI cC cZ a (sA σ 19 f) := rfl
theorem gc_20 {cI cC cZ : ClassId} {a : Nat → Nat} {σ : gS} : (cW cI cC cZ a σ)[20]? = some (a 20, .inr (0, [.int (σ.1 5), .ref (a 21), .ref (a 22), .ref (a 23), .ref (a 24), .ref (a 25), .ref (a 26), .ref (a 27), .int (σ.1 6), .ref (a 28), .ref (a 29), .ref (a 30), .int (σ.1 7), .ref (a 31)])) := rfl
theorem sc_20_0 {cI cC cZ : ClassId} {a : Nat → Nat} {σ : gS} {x : Int32} : (cW cI cC cZ a σ).set 20 (a 20, .inr (0, ([.int (σ.1 5), .ref (a 21), .ref (a 22), .ref (a 23), .ref (a 24), .ref (a 25), .ref (a 26), .ref (a 27), .int (σ.1 6), .ref (a 28), .ref (a 29), .ref (a 30), .int (σ.1 7), .ref (a 31)] : List Value).set 0 (.int x))) = cW cI cC cZ a (sI σ 5 x) := rfl
theorem sc_20_8 {cI cC cZ : ClassId} {a : Nat → Nat} {σ : gS} {x : Int32} : (cW cI cC cZ a σ).set 20 (a 20, .inr (0, ([.int (σ.1 5), .ref (a 21), .ref (a 22), .ref (a 23), .ref (a 24), .ref (a 25), .ref (a 26), .ref (a 27), .int (σ.1 6), .ref (a 28), .ref (a 29), .ref (a 30), .int (σ.1 7), .ref (a 31)] : List Value).set 8 (.int x))) = cW cI cC cZ a (sI σ 6 x) := rfl
theorem sc_20_12 {cI cC cZ : ClassId} {a : Nat → Nat} {σ : gS} {x : Int32} : (cW cI cC cZ a σ).set 20 (a 20, .inr (0, ([.int (σ.1 5), .ref (a 21), .ref (a 22), .ref (a 23), .ref (a 24), .ref (a 25), .ref (a 26), .ref (a 27), .int (σ.1 6), .ref (a 28), .ref (a 29), .ref (a 30), .int (σ.1 7), .ref (a 31)] : List Value).set 12 (.int x))) = cW cI cC cZ a (sI σ 7 x) := rfl
theorem gc_21 {cI cC cZ : ClassId} {a : Nat → Nat} {σ : gS} : (cW cI cC cZ a σ)[21]? = some (a 21, .inl (cI, 533, .inl (σ.2 21))) := rfl
theorem sc_21 {cI cC cZ : ClassId} {a : Nat → Nat} {σ : gS} {f : Nat → Int32} : (cW cI cC cZ a σ).set 21 (a 21, .inl (cI, 533, .inl f)) = cW cI cC cZ a (sA σ 21 f) := rfl
theorem gc_22 {cI cC cZ : ClassId} {a : Nat → Nat} {σ : gS} : (cW cI cC cZ a σ)[22]? = some (a 22, .inl (cI, 533, .inl (σ.2 22))) := rfl
theorem sc_22 {cI cC cZ : ClassId} {a : Nat → Nat} {σ : gS} {f : Nat → Int32} : (cW cI cC cZ a σ).set 22 (a 22, .inl (cI, 533, .inl f)) = cW cI cC cZ a (sA σ 22 f) := rfl
theorem gc_23 {cI cC cZ : ClassId} {a : Nat → Nat} {σ : gS} : (cW cI cC cZ a σ)[23]? = some (a 23, .inl (cI, 533, .inl (σ.2 23))) := rfl
theorem sc_23 {cI cC cZ : ClassId} {a : Nat → Nat} {σ : gS} {f : Nat → Int32} : (cW cI cC cZ a σ).set 23 (a 23, .inl (cI, 533, .inl f)) = cW cI cC cZ a (sA σ 23 f) := rfl
theorem gc_24 {cI cC cZ : ClassId} {a : Nat → Nat} {σ : gS} : (cW cI cC cZ a σ)[24]? = some (a 24, .inl (cI, 533, .inl (σ.2 24))) := rfl
theorem sc_24 {cI cC cZ : ClassId} {a : Nat → Nat} {σ : gS} {f : Nat → Int32} : (cW cI cC cZ a σ).set 24 (a 24, .inl (cI, 533, .inl f)) = cW cI cC cZ a (sA σ 24 f) := rfl
theorem gc_25 {cI cC cZ : ClassId} {a : Nat → Nat} {σ : gS} : (cW cI cC cZ a σ)[25]? = some (a 25, .inl (cI, 533, .inl (σ.2 25))) := rfl
theorem sc_25 {cI cC cZ : ClassId} {a : Nat → Nat} {σ : gS} {f : Nat → Int32} : (cW cI cC cZ a σ).set 25 (a 25, .inl (cI, 533, .inl f)) = cW cI cC cZ a (sA σ 25 f) := rfl
theorem gc_26 {cI cC cZ : ClassId} {a : Nat → Nat} {σ : gS} : (cW cI cC cZ a σ)[26]? = some (a 26, .inl (cI, 533, .inl (σ.2 26))) := rfl
theorem sc_26 {cI cC cZ : ClassId} {a : Nat → Nat} {σ : gS} {f : Nat → Int32} : (cW cI cC cZ a σ).set 26 (a 26, .inl (cI, 533, .inl f)) = cW cI cC cZ a (sA σ 26 f) := rfl
theorem gc_27 {cI cC cZ : ClassId} {a : Nat → Nat} {σ : gS} : (cW cI cC cZ a σ)[27]? = some (a 27, .inl (cI, 533, .inl (σ.2 27))) := rfl
theorem sc_27 {cI cC cZ : ClassId} {a : Nat → Nat} {σ : gS} {f : Nat → Int32} : (cW cI cC cZ a σ).set 27 (a 27, .inl (cI, 533, .inl f)) = cW cI cC cZ a (sA σ 27 f) := rfl
theorem gc_28 {cI cC cZ : ClassId} {a : Nat → Nat} {σ : gS} : (cW cI cC cZ a σ)[28]? = some (a 28, .inl (cI, 320, .inl (σ.2 28))) := rfl
theorem sc_28 {cI cC cZ : ClassId} {a : Nat → Nat} {σ : gS} {f : Nat → Int32} : (cW cI cC cZ a σ).set 28 (a 28, .inl (cI, 320, .inl f)) = cW cI cC cZ a (sA σ 28 f) := rfl
theorem gc_29 {cI cC cZ : ClassId} {a : Nat → Nat} {σ : gS} : (cW cI cC cZ a σ)[29]? = some (a 29, .inl (cI, 320, .inl (σ.2 29))) := rfl
theorem sc_29 {cI cC cZ : ClassId} {a : Nat → Nat} {σ : gS} {f : Nat → Int32} : (cW cI cC cZ a σ).set 29 (a 29, .inl (cI, 320, .inl f)) = cW cI cC cZ a (sA σ 29 f) := rfl
theorem gc_30 {cI cC cZ : ClassId} {a : Nat → Nat} {σ : gS} : (cW cI cC cZ a σ)[30]? = some (a 30, .inl (cI, 320, .inl (σ.2 30))) := rfl
theorem sc_30 {cI cC cZ : ClassId} {a : Nat → Nat} {σ : gS} {f : Nat → Int32} : (cW cI cC cZ a σ).set 30 (a 30, .inl (cI, 320, .inl f)) = cW cI cC cZ a (sA σ 30 f) := rfl
theorem gc_31 {cI cC cZ : ClassId} {a : Nat → Nat} {σ : gS} : (cW cI cC cZ a σ)[31]? = some (a 31, .inl (cC, 1600, .inl (σ.2 31))) := rfl
theorem sc_31 {cI cC cZ : ClassId} {a : Nat → Nat} {σ : gS} {f : Nat → Int32} : (cW cI cC cZ a σ).set 31 (a 31, .inl (cC, 1600, .inl f)) = cW cI cC cZ a (sA σ 31 f) := rfl
theorem gc_32 {cI cC cZ : ClassId} {a : Nat → Nat} {σ : gS} : (cW cI cC cZ a σ)[32]? = some (a 32, .inr (1, [.ref (a 7), .ref (a 20), .int (σ.1 8), .int (σ.1 9), .int (σ.1 10)])) := rfl
theorem sc_32_2 {cI cC cZ : ClassId} {a : Nat → Nat} {σ : gS} {x : Int32} : (cW cI cC cZ a σ).set 32 (a 32, .inr (1, ([.ref (a 7), .ref (a 20), .int (σ.1 8), .int (σ.1 9), .int (σ.1 10)] : List Value).set 2 (.int x))) = cW cI cC cZ a (sI σ 8 x) := rfl
theorem sc_32_3 {cI cC cZ : ClassId} {a : Nat → Nat} {σ : gS} {x : Int32} : (cW cI cC cZ a σ).set 32 (a 32, .inr (1, ([.ref (a 7), .ref (a 20), .int (σ.1 8), .int (σ.1 9), .int (σ.1 10)] : List Value).set 3 (.int x))) = cW cI cC cZ a (sI σ 9 x) := rfl
theorem sc_32_4 {cI cC cZ : ClassId} {a : Nat → Nat} {σ : gS} {x : Int32} : (cW cI cC cZ a σ).set 32 (a 32, .inr (1, ([.ref (a 7), .ref (a 20), .int (σ.1 8), .int (σ.1 9), .int (σ.1 10)] : List Value).set 4 (.int x))) = cW cI cC cZ a (sI σ 10 x) := rfl
theorem gc_33 {cI cC cZ : ClassId} {a : Nat → Nat} {σ : gS} : (cW cI cC cZ a σ)[33]? = some (a 33, .inr (3, [.ref (a 7), .ref (a 20), .ref (a 1), .ref (a 34), .ref (a 35), .ref (a 36), .ref (a 37), .int (σ.1 11)])) := rfl
theorem sc_33_7 {cI cC cZ : ClassId} {a : Nat → Nat} {σ : gS} {x : Int32} : (cW cI cC cZ a σ).set 33 (a 33, .inr (3, ([.ref (a 7), .ref (a 20), .ref (a 1), .ref (a 34), .ref (a 35), .ref (a 36), .ref (a 37), .int (σ.1 11)] : List Value).set 7 (.int x))) = cW cI cC cZ a (sI σ 11 x) := rfl
theorem gc_34 {cI cC cZ : ClassId} {a : Nat → Nat} {σ : gS} : (cW cI cC cZ a σ)[34]? = some (a 34, .inl (cI, 533, .inl (σ.2 34))) := rfl
theorem sc_34 {cI cC cZ : ClassId} {a : Nat → Nat} {σ : gS} {f : Nat → Int32} : (cW cI cC cZ a σ).set 34 (a 34, .inl (cI, 533, .inl f)) = cW cI cC cZ a (sA σ 34 f) := rfl
theorem gc_35 {cI cC cZ : ClassId} {a : Nat → Nat} {σ : gS} : (cW cI cC cZ a σ)[35]? = some (a 35, .inl (cI, 100, .inl (σ.2 35))) := rfl
theorem sc_35 {cI cC cZ : ClassId} {a : Nat → Nat} {σ : gS} {f : Nat → Int32} : (cW cI cC cZ a σ).set 35 (a 35, .inl (cI, 100, .inl f)) = cW cI cC cZ a (sA σ 35 f) := rfl
theorem gc_36 {cI cC cZ : ClassId} {a : Nat → Nat} {σ : gS} : (cW cI cC cZ a σ)[36]? = some (a 36, .inl (cI, 16, .inl (σ.2 36))) := rfl
theorem sc_36 {cI cC cZ : ClassId} {a : Nat → Nat} {σ : gS} {f : Nat → Int32} : (cW cI cC cZ a σ).set 36 (a 36, .inl (cI, 16, .inl f)) = cW cI cC cZ a (sA σ 36 f) := rfl
theorem gc_37 {cI cC cZ : ClassId} {a : Nat → Nat} {σ : gS} : (cW cI cC cZ a σ)[37]? = some (a 37, .inl (cI, 16, .inl (σ.2 37))) := rfl
theorem sc_37 {cI cC cZ : ClassId} {a : Nat → Nat} {σ : gS} {f : Nat → Int32} : (cW cI cC cZ a σ).set 37 (a 37, .inl (cI, 16, .inl f)) = cW cI cC cZ a (sA σ 37 f) := rfl
def mW (cI cC cZ : ClassId) (b : Nat → Nat) (σ : gS) : va_W := [(b 0, .inr (9, [.int (σ.1 0), .ref (b 1), .ref (b 2), .ref (b 3), .ref (b 4), .ref (b 5), .ref (b 6), .int (σ.1 1), .ref (b 7), .int (σ.1 2), .ref (b 8), .ref (b 9), .ref (b 10), .ref (b 11), .ref (b 12), .ref (b 13), .ref (b 14), .ref (b 15), .int (σ.1 3), .ref (b 16), .ref (b 17), .ref (b 18), .int (σ.1 4), .int (σ.1 5), .int (σ.1 6), .int (σ.1 7), .ref (b 19), .ref (b 20), .ref (b 21), .ref (b 22), .int (σ.1 8), .ref (b 23), .int (σ.1 9), .ref (b 24), .ref (b 25)])), (b 1, .inl (cI, 16, .inl (σ.2 1))), (b 2, .inl (cI, 16, .inl (σ.2 2))), (b 3, .inl (cI, 64, .inl (σ.2 3))), (b 4, .inl (cI, 64, .inl (σ.2 4))), (b 5, .inl (cI, 96, .inl (σ.2 5))), (b 6, .inl (cZ, 32, .inl (σ.2 6))), (b 7, .inl (cC, 1600, .inl (σ.2 7))), (b 8, .inl (cI, 420, .inl (σ.2 8))), (b 9, .inl (cI, 420, .inl (σ.2 9))), (b 10, .inl (cI, 420, .inl (σ.2 10))), (b 11, .inl (cI, 420, .inl (σ.2 11))), (b 12, .inl (cI, 420, .inl (σ.2 12))), (b 13, .inl (cC, 5040, .inl (σ.2 13))), (b 14, .inl (cI, 420, .inl (σ.2 14))), (b 15, .inl (cI, 420, .inl (σ.2 15))), (b 16, .inl (cI, 320, .inl (σ.2 16))), (b 17, .inl (cI, 320, .inl (σ.2 17))), (b 18, .inl (cI, 320, .inl (σ.2 18))), (b 19, .inl (cZ, 16, .inl (σ.2 19))), (b 20, .inl (cI, 16, .inl (σ.2 20))), (b 21, .inl (cI, 16, .inl (σ.2 21))), (b 22, .inl (cI, 17, .inl (σ.2 22))), (b 23, .inl (cI, 96, .inl (σ.2 23))), (b 24, .inl (cI, 16, .inl (σ.2 24))), (b 25, .inl (cI, 16, .inl (σ.2 25)))]
theorem mW_fst {cI cC cZ : ClassId} {b : Nat → Nat} {σ σ' : gS} : (mW cI cC cZ b σ').map (fun q => q.1) = (mW cI cC cZ b σ).map (fun q => q.1) := rfl
theorem gm_0 {cI cC cZ : ClassId} {b : Nat → Nat} {σ : gS} : (mW cI cC cZ b σ)[0]? = some (b 0, .inr (9, [.int (σ.1 0), .ref (b 1), .ref (b 2), .ref (b 3), .ref (b 4), .ref (b 5), .ref (b 6), .int (σ.1 1), .ref (b 7), .int (σ.1 2), .ref (b 8), .ref (b 9), .ref (b 10), .ref (b 11), .ref (b 12), .ref (b 13), .ref (b 14), .ref (b 15), .int (σ.1 3), .ref (b 16), .ref (b 17), .ref (b 18), .int (σ.1 4), .int (σ.1 5), .int (σ.1 6), .int (σ.1 7), .ref (b 19), .ref (b 20), .ref (b 21), .ref (b 22), .int (σ.1 8), .ref (b 23), .int (σ.1 9), .ref (b 24), .ref (b 25)])) := rfl
theorem sm_0_0 {cI cC cZ : ClassId} {b : Nat → Nat} {σ : gS} {x : Int32} : (mW cI cC cZ b σ).set 0 (b 0, .inr (9, ([.int (σ.1 0), .ref (b 1), .ref (b 2), .ref (b 3), .ref (b 4), .ref (b 5), .ref (b 6), .int (σ.1 1), .ref (b 7), .int (σ.1 2), .ref (b 8), .ref (b 9), .ref (b 10), .ref (b 11), .ref (b 12), .ref (b 13), .ref (b 14), .ref (b 15), .int (σ.1 3), .ref (b 16), .ref (b 17), .ref (b 18), .int (σ.1 4), .int (σ.1 5), .int (σ.1 6), .int (σ.1 7), .ref (b 19), .ref (b 20), .ref (b 21), .ref (b 22), .int (σ.1 8), .ref (b 23), .int (σ.1 9), .ref (b 24), .ref (b 25)] : List Value).set 0 (.int x))) = mW cI cC cZ b (sI σ 0 x) := rfl
theorem sm_0_7 {cI cC cZ : ClassId} {b : Nat → Nat} {σ : gS} {x : Int32} : (mW cI cC cZ b σ).set 0 (b 0, .inr (9, ([.int (σ.1 0), .ref (b 1), .ref (b 2), .ref (b 3), .ref (b 4), .ref (b 5), .ref (b 6), .int (σ.1 1), .ref (b 7), .int (σ.1 2), .ref (b 8), .ref (b 9), .ref (b 10), .ref (b 11), .ref (b 12), .ref (b 13), .ref (b 14), .ref (b 15), .int (σ.1 3), .ref (b 16), .ref (b 17), .ref (b 18), .int (σ.1 4), .int (σ.1 5), .int (σ.1 6), .int (σ.1 7), .ref (b 19), .ref (b 20), .ref (b 21), .ref (b 22), .int (σ.1 8), .ref (b 23), .int (σ.1 9), .ref (b 24), .ref (b 25)] : List Value).set 7 (.int x))) = mW cI cC cZ b (sI σ 1 x) := rfl
theorem sm_0_9 {cI cC cZ : ClassId} {b : Nat → Nat} {σ : gS} {x : Int32} : (mW cI cC cZ b σ).set 0 (b 0, .inr (9, ([.int (σ.1 0), .ref (b 1), .ref (b 2), .ref (b 3), .ref (b 4), .ref (b 5), .ref (b 6), .int (σ.1 1), .ref (b 7), .int (σ.1 2), .ref (b 8), .ref (b 9), .ref (b 10), .ref (b 11), .ref (b 12), .ref (b 13), .ref (b 14), .ref (b 15), .int (σ.1 3), .ref (b 16), .ref (b 17), .ref (b 18), .int (σ.1 4), .int (σ.1 5), .int (σ.1 6), .int (σ.1 7), .ref (b 19), .ref (b 20), .ref (b 21), .ref (b 22), .int (σ.1 8), .ref (b 23), .int (σ.1 9), .ref (b 24), .ref (b 25)] : List Value).set 9 (.int x))) = mW cI cC cZ b (sI σ 2 x) := rfl
theorem sm_0_18 {cI cC cZ : ClassId} {b : Nat → Nat} {σ : gS} {x : Int32} : (mW cI cC cZ b σ).set 0 (b 0, .inr (9, ([.int (σ.1 0), .ref (b 1), .ref (b 2), .ref (b 3), .ref (b 4), .ref (b 5), .ref (b 6), .int (σ.1 1), .ref (b 7), .int (σ.1 2), .ref (b 8), .ref (b 9), .ref (b 10), .ref (b 11), .ref (b 12), .ref (b 13), .ref (b 14), .ref (b 15), .int (σ.1 3), .ref (b 16), .ref (b 17), .ref (b 18), .int (σ.1 4), .int (σ.1 5), .int (σ.1 6), .int (σ.1 7), .ref (b 19), .ref (b 20), .ref (b 21), .ref (b 22), .int (σ.1 8), .ref (b 23), .int (σ.1 9), .ref (b 24), .ref (b 25)] : List Value).set 18 (.int x))) = mW cI cC cZ b (sI σ 3 x) := rfl
theorem sm_0_22 {cI cC cZ : ClassId} {b : Nat → Nat} {σ : gS} {x : Int32} : (mW cI cC cZ b σ).set 0 (b 0, .inr (9, ([.int (σ.1 0), .ref (b 1), .ref (b 2), .ref (b 3), .ref (b 4), .ref (b 5), .ref (b 6), .int (σ.1 1), .ref (b 7), .int (σ.1 2), .ref (b 8), .ref (b 9), .ref (b 10), .ref (b 11), .ref (b 12), .ref (b 13), .ref (b 14), .ref (b 15), .int (σ.1 3), .ref (b 16), .ref (b 17), .ref (b 18), .int (σ.1 4), .int (σ.1 5), .int (σ.1 6), .int (σ.1 7), .ref (b 19), .ref (b 20), .ref (b 21), .ref (b 22), .int (σ.1 8), .ref (b 23), .int (σ.1 9), .ref (b 24), .ref (b 25)] : List Value).set 22 (.int x))) = mW cI cC cZ b (sI σ 4 x) := rfl
theorem sm_0_23 {cI cC cZ : ClassId} {b : Nat → Nat} {σ : gS} {x : Int32} : (mW cI cC cZ b σ).set 0 (b 0, .inr (9, ([.int (σ.1 0), .ref (b 1), .ref (b 2), .ref (b 3), .ref (b 4), .ref (b 5), .ref (b 6), .int (σ.1 1), .ref (b 7), .int (σ.1 2), .ref (b 8), .ref (b 9), .ref (b 10), .ref (b 11), .ref (b 12), .ref (b 13), .ref (b 14), .ref (b 15), .int (σ.1 3), .ref (b 16), .ref (b 17), .ref (b 18), .int (σ.1 4), .int (σ.1 5), .int (σ.1 6), .int (σ.1 7), .ref (b 19), .ref (b 20), .ref (b 21), .ref (b 22), .int (σ.1 8), .ref (b 23), .int (σ.1 9), .ref (b 24), .ref (b 25)] : List Value).set 23 (.int x))) = mW cI cC cZ b (sI σ 5 x) := rfl
theorem sm_0_24 {cI cC cZ : ClassId} {b : Nat → Nat} {σ : gS} {x : Int32} : (mW cI cC cZ b σ).set 0 (b 0, .inr (9, ([.int (σ.1 0), .ref (b 1), .ref (b 2), .ref (b 3), .ref (b 4), .ref (b 5), .ref (b 6), .int (σ.1 1), .ref (b 7), .int (σ.1 2), .ref (b 8), .ref (b 9), .ref (b 10), .ref (b 11), .ref (b 12), .ref (b 13), .ref (b 14), .ref (b 15), .int (σ.1 3), .ref (b 16), .ref (b 17), .ref (b 18), .int (σ.1 4), .int (σ.1 5), .int (σ.1 6), .int (σ.1 7), .ref (b 19), .ref (b 20), .ref (b 21), .ref (b 22), .int (σ.1 8), .ref (b 23), .int (σ.1 9), .ref (b 24), .ref (b 25)] : List Value).set 24 (.int x))) = mW cI cC cZ b (sI σ 6 x) := rfl
theorem sm_0_25 {cI cC cZ : ClassId} {b : Nat → Nat} {σ : gS} {x : Int32} : (mW cI cC cZ b σ).set 0 (b 0, .inr (9, ([.int (σ.1 0), .ref (b 1), .ref (b 2), .ref (b 3), .ref (b 4), .ref (b 5), .ref (b 6), .int (σ.1 1), .ref (b 7), .int (σ.1 2), .ref (b 8), .ref (b 9), .ref (b 10), .ref (b 11), .ref (b 12), .ref (b 13), .ref (b 14), .ref (b 15), .int (σ.1 3), .ref (b 16), .ref (b 17), .ref (b 18), .int (σ.1 4), .int (σ.1 5), .int (σ.1 6), .int (σ.1 7), .ref (b 19), .ref (b 20), .ref (b 21), .ref (b 22), .int (σ.1 8), .ref (b 23), .int (σ.1 9), .ref (b 24), .ref (b 25)] : List Value).set 25 (.int x))) = mW cI cC cZ b (sI σ 7 x) := rfl
theorem sm_0_30 {cI cC cZ : ClassId} {b : Nat → Nat} {σ : gS} {x : Int32} : (mW cI cC cZ b σ).set 0 (b 0, .inr (9, ([.int (σ.1 0), .ref (b 1), .ref (b 2), .ref (b 3), .ref (b 4), .ref (b 5), .ref (b 6), .int (σ.1 1), .ref (b 7), .int (σ.1 2), .ref (b 8), .ref (b 9), .ref (b 10), .ref (b 11), .ref (b 12), .ref (b 13), .ref (b 14), .ref (b 15), .int (σ.1 3), .ref (b 16), .ref (b 17), .ref (b 18), .int (σ.1 4), .int (σ.1 5), .int (σ.1 6), .int (σ.1 7), .ref (b 19), .ref (b 20), .ref (b 21), .ref (b 22), .int (σ.1 8), .ref (b 23), .int (σ.1 9), .ref (b 24), .ref (b 25)] : List Value).set 30 (.int x))) = mW cI cC cZ b (sI σ 8 x) := rfl
theorem sm_0_32 {cI cC cZ : ClassId} {b : Nat → Nat} {σ : gS} {x : Int32} : (mW cI cC cZ b σ).set 0 (b 0, .inr (9, ([.int (σ.1 0), .ref (b 1), .ref (b 2), .ref (b 3), .ref (b 4), .ref (b 5), .ref (b 6), .int (σ.1 1), .ref (b 7), .int (σ.1 2), .ref (b 8), .ref (b 9), .ref (b 10), .ref (b 11), .ref (b 12), .ref (b 13), .ref (b 14), .ref (b 15), .int (σ.1 3), .ref (b 16), .ref (b 17), .ref (b 18), .int (σ.1 4), .int (σ.1 5), .int (σ.1 6), .int (σ.1 7), .ref (b 19), .ref (b 20), .ref (b 21), .ref (b 22), .int (σ.1 8), .ref (b 23), .int (σ.1 9), .ref (b 24), .ref (b 25)] : List Value).set 32 (.int x))) = mW cI cC cZ b (sI σ 9 x) := rfl
theorem gm_1 {cI cC cZ : ClassId} {b : Nat → Nat} {σ : gS} : (mW cI cC cZ b σ)[1]? = some (b 1, .inl (cI, 16, .inl (σ.2 1))) := rfl
theorem sm_1 {cI cC cZ : ClassId} {b : Nat → Nat} {σ : gS} {f : Nat → Int32} : (mW cI cC cZ b σ).set 1 (b 1, .inl (cI, 16, .inl f)) = mW cI cC cZ b (sA σ 1 f) := rfl
theorem gm_2 {cI cC cZ : ClassId} {b : Nat → Nat} {σ : gS} : (mW cI cC cZ b σ)[2]? = some (b 2, .inl (cI, 16, .inl (σ.2 2))) := rfl
theorem sm_2 {cI cC cZ : ClassId} {b : Nat → Nat} {σ : gS} {f : Nat → Int32} : (mW cI cC cZ b σ).set 2 (b 2, .inl (cI, 16, .inl f)) = mW cI cC cZ b (sA σ 2 f) := rfl
theorem gm_3 {cI cC cZ : ClassId} {b : Nat → Nat} {σ : gS} : (mW cI cC cZ b σ)[3]? = some (b 3, .inl (cI, 64, .inl (σ.2 3))) := rfl
theorem sm_3 {cI cC cZ : ClassId} {b : Nat → Nat} {σ : gS} {f : Nat → Int32} : (mW cI cC cZ b σ).set 3 (b 3, .inl (cI, 64, .inl f)) = mW cI cC cZ b (sA σ 3 f) := rfl
theorem gm_4 {cI cC cZ : ClassId} {b : Nat → Nat} {σ : gS} : (mW cI cC cZ b σ)[4]? = some (b 4, .inl (cI, 64, .inl (σ.2 4))) := rfl
theorem sm_4 {cI cC cZ : ClassId} {b : Nat → Nat} {σ : gS} {f : Nat → Int32} : (mW cI cC cZ b σ).set 4 (b 4, .inl (cI, 64, .inl f)) = mW cI cC cZ b (sA σ 4 f) := rfl
theorem gm_5 {cI cC cZ : ClassId} {b : Nat → Nat} {σ : gS} : (mW cI cC cZ b σ)[5]? = some (b 5, .inl (cI, 96, .inl (σ.2 5))) := rfl
theorem sm_5 {cI cC cZ : ClassId} {b : Nat → Nat} {σ : gS} {f : Nat → Int32} : (mW cI cC cZ b σ).set 5 (b 5, .inl (cI, 96, .inl f)) = mW cI cC cZ b (sA σ 5 f) := rfl
theorem gm_6 {cI cC cZ : ClassId} {b : Nat → Nat} {σ : gS} : (mW cI cC cZ b σ)[6]? = some (b 6, .inl (cZ, 32, .inl (σ.2 6))) := rfl
theorem sm_6 {cI cC cZ : ClassId} {b : Nat → Nat} {σ : gS} {f : Nat → Int32} : (mW cI cC cZ b σ).set 6 (b 6, .inl (cZ, 32, .inl f)) = mW cI cC cZ b (sA σ 6 f) := rfl
theorem gm_7 {cI cC cZ : ClassId} {b : Nat → Nat} {σ : gS} : (mW cI cC cZ b σ)[7]? = some (b 7, .inl (cC, 1600, .inl (σ.2 7))) := rfl
theorem sm_7 {cI cC cZ : ClassId} {b : Nat → Nat} {σ : gS} {f : Nat → Int32} : (mW cI cC cZ b σ).set 7 (b 7, .inl (cC, 1600, .inl f)) = mW cI cC cZ b (sA σ 7 f) := rfl
theorem gm_8 {cI cC cZ : ClassId} {b : Nat → Nat} {σ : gS} : (mW cI cC cZ b σ)[8]? = some (b 8, .inl (cI, 420, .inl (σ.2 8))) := rfl
theorem sm_8 {cI cC cZ : ClassId} {b : Nat → Nat} {σ : gS} {f : Nat → Int32} : (mW cI cC cZ b σ).set 8 (b 8, .inl (cI, 420, .inl f)) = mW cI cC cZ b (sA σ 8 f) := rfl
theorem gm_9 {cI cC cZ : ClassId} {b : Nat → Nat} {σ : gS} : (mW cI cC cZ b σ)[9]? = some (b 9, .inl (cI, 420, .inl (σ.2 9))) := rfl
theorem sm_9 {cI cC cZ : ClassId} {b : Nat → Nat} {σ : gS} {f : Nat → Int32} : (mW cI cC cZ b σ).set 9 (b 9, .inl (cI, 420, .inl f)) = mW cI cC cZ b (sA σ 9 f) := rfl
theorem gm_10 {cI cC cZ : ClassId} {b : Nat → Nat} {σ : gS} : (mW cI cC cZ b σ)[10]? = some (b 10, .inl (cI, 420, .inl (σ.2 10))) := rfl
theorem sm_10 {cI cC cZ : ClassId} {b : Nat → Nat} {σ : gS} {f : Nat → Int32} : (mW cI cC cZ b σ).set 10 (b 10, .inl (cI, 420, .inl f)) = mW cI cC cZ b (sA σ 10 f) := rfl
theorem gm_11 {cI cC cZ : ClassId} {b : Nat → Nat} {σ : gS} : (mW cI cC cZ b σ)[11]? = some (b 11, .inl (cI, 420, .inl (σ.2 11))) := rfl
theorem sm_11 {cI cC cZ : ClassId} {b : Nat → Nat} {σ : gS} {f : Nat → Int32} : (mW cI cC cZ b σ).set 11 (b 11, .inl (cI, 420, .inl f)) = mW cI cC cZ b (sA σ 11 f) := rfl
theorem gm_12 {cI cC cZ : ClassId} {b : Nat → Nat} {σ : gS} : (mW cI cC cZ b σ)[12]? = some (b 12, .inl (cI, 420, .inl (σ.2 12))) := rfl
theorem sm_12 {cI cC cZ : ClassId} {b : Nat → Nat} {σ : gS} {f : Nat → Int32} : (mW cI cC cZ b σ).set 12 (b 12, .inl (cI, 420, .inl f)) = mW cI cC cZ b (sA σ 12 f) := rfl
theorem gm_13 {cI cC cZ : ClassId} {b : Nat → Nat} {σ : gS} : (mW cI cC cZ b σ)[13]? = some (b 13, .inl (cC, 5040, .inl (σ.2 13))) := rfl
theorem sm_13 {cI cC cZ : ClassId} {b : Nat → Nat} {σ : gS} {f : Nat → Int32} : (mW cI cC cZ b σ).set 13 (b 13, .inl (cC, 5040, .inl f)) = mW cI cC cZ b (sA σ 13 f) := rfl
theorem gm_14 {cI cC cZ : ClassId} {b : Nat → Nat} {σ : gS} : (mW cI cC cZ b σ)[14]? = some (b 14, .inl (cI, 420, .inl (σ.2 14))) := rfl
theorem sm_14 {cI cC cZ : ClassId} {b : Nat → Nat} {σ : gS} {f : Nat → Int32} : (mW cI cC cZ b σ).set 14 (b 14, .inl (cI, 420, .inl f)) = mW cI cC cZ b (sA σ 14 f) := rfl
theorem gm_15 {cI cC cZ : ClassId} {b : Nat → Nat} {σ : gS} : (mW cI cC cZ b σ)[15]? = some (b 15, .inl (cI, 420, .inl (σ.2 15))) := rfl
theorem sm_15 {cI cC cZ : ClassId} {b : Nat → Nat} {σ : gS} {f : Nat → Int32} : (mW cI cC cZ b σ).set 15 (b 15, .inl (cI, 420, .inl f)) = mW cI cC cZ b (sA σ 15 f) := rfl
theorem gm_16 {cI cC cZ : ClassId} {b : Nat → Nat} {σ : gS} : (mW cI cC cZ b σ)[16]? = some (b 16, .inl (cI, 320, .inl (σ.2 16))) := rfl
theorem sm_16 {cI cC cZ : ClassId} {b : Nat → Nat} {σ : gS} {f : Nat → Int32} : (mW cI cC cZ b σ).set 16 (b 16, .inl (cI, 320, .inl f)) = mW cI cC cZ b (sA σ 16 f) := rfl
theorem gm_17 {cI cC cZ : ClassId} {b : Nat → Nat} {σ : gS} : (mW cI cC cZ b σ)[17]? = some (b 17, .inl (cI, 320, .inl (σ.2 17))) := rfl
theorem sm_17 {cI cC cZ : ClassId} {b : Nat → Nat} {σ : gS} {f : Nat → Int32} : (mW cI cC cZ b σ).set 17 (b 17, .inl (cI, 320, .inl f)) = mW cI cC cZ b (sA σ 17 f) := rfl
theorem gm_18 {cI cC cZ : ClassId} {b : Nat → Nat} {σ : gS} : (mW cI cC cZ b σ)[18]? = some (b 18, .inl (cI, 320, .inl (σ.2 18))) := rfl
theorem sm_18 {cI cC cZ : ClassId} {b : Nat → Nat} {σ : gS} {f : Nat → Int32} : (mW cI cC cZ b σ).set 18 (b 18, .inl (cI, 320, .inl f)) = mW cI cC cZ b (sA σ 18 f) := rfl
theorem gm_19 {cI cC cZ : ClassId} {b : Nat → Nat} {σ : gS} : (mW cI cC cZ b σ)[19]? = some (b 19, .inl (cZ, 16, .inl (σ.2 19))) := rfl
theorem sm_19 {cI cC cZ : ClassId} {b : Nat → Nat} {σ : gS} {f : Nat → Int32} : (mW cI cC cZ b σ).set 19 (b 19, .inl (cZ, 16, .inl f)) = mW cI cC cZ b (sA σ 19 f) := rfl
theorem gm_20 {cI cC cZ : ClassId} {b : Nat → Nat} {σ : gS} : (mW cI cC cZ b σ)[20]? = some (b 20, .inl (cI, 16, .inl (σ.2 20))) := rfl
theorem sm_20 {cI cC cZ : ClassId} {b : Nat → Nat} {σ : gS} {f : Nat → Int32} : (mW cI cC cZ b σ).set 20 (b 20, .inl (cI, 16, .inl f)) = mW cI cC cZ b (sA σ 20 f) := rfl
theorem gm_21 {cI cC cZ : ClassId} {b : Nat → Nat} {σ : gS} : (mW cI cC cZ b σ)[21]? = some (b 21, .inl (cI, 16, .inl (σ.2 21))) := rfl
theorem sm_21 {cI cC cZ : ClassId} {b : Nat → Nat} {σ : gS} {f : Nat → Int32} : (mW cI cC cZ b σ).set 21 (b 21, .inl (cI, 16, .inl f)) = mW cI cC cZ b (sA σ 21 f) := rfl
theorem gm_22 {cI cC cZ : ClassId} {b : Nat → Nat} {σ : gS} : (mW cI cC cZ b σ)[22]? = some (b 22, .inl (cI, 17, .inl (σ.2 22))) := rfl
theorem sm_22 {cI cC cZ : ClassId} {b : Nat → Nat} {σ : gS} {f : Nat → Int32} : (mW cI cC cZ b σ).set 22 (b 22, .inl (cI, 17, .inl f)) = mW cI cC cZ b (sA σ 22 f) := rfl
theorem gm_23 {cI cC cZ : ClassId} {b : Nat → Nat} {σ : gS} : (mW cI cC cZ b σ)[23]? = some (b 23, .inl (cI, 96, .inl (σ.2 23))) := rfl
theorem sm_23 {cI cC cZ : ClassId} {b : Nat → Nat} {σ : gS} {f : Nat → Int32} : (mW cI cC cZ b σ).set 23 (b 23, .inl (cI, 96, .inl f)) = mW cI cC cZ b (sA σ 23 f) := rfl
theorem gm_24 {cI cC cZ : ClassId} {b : Nat → Nat} {σ : gS} : (mW cI cC cZ b σ)[24]? = some (b 24, .inl (cI, 16, .inl (σ.2 24))) := rfl
theorem sm_24 {cI cC cZ : ClassId} {b : Nat → Nat} {σ : gS} {f : Nat → Int32} : (mW cI cC cZ b σ).set 24 (b 24, .inl (cI, 16, .inl f)) = mW cI cC cZ b (sA σ 24 f) := rfl
theorem gm_25 {cI cC cZ : ClassId} {b : Nat → Nat} {σ : gS} : (mW cI cC cZ b σ)[25]? = some (b 25, .inl (cI, 16, .inl (σ.2 25))) := rfl
theorem sm_25 {cI cC cZ : ClassId} {b : Nat → Nat} {σ : gS} {f : Nat → Int32} : (mW cI cC cZ b σ).set 25 (b 25, .inl (cI, 16, .inl f)) = mW cI cC cZ b (sA σ 25 f) := rfl
end
section
def gFuel : Nat := 100000
def gLd {β : Type} (σ : gS) (k n : Nat) (i : Int32) (K : Int32 → Option β) : Option β := if i < 0 ∨ n ≤ i.toNatClampNeg then none else K (σ.2 k i.toNatClampNeg)
def gSt {β : Type} (σ : gS) (k n : Nat) (i v : Int32) (K : gS → Option β) : Option β := if i < 0 ∨ n ≤ i.toNatClampNeg then none else K (sA σ k (upd (σ.2 k) i.toNatClampNeg v))
def gPut {β : Type} (σ : gS) (k : Nat) (x : Int32) (K : gS → Option β) : Option β := K (sI σ k x)
def gBd {α β : Type} (o : Option (α × gS)) (K : α → gS → Option β) : Option β := match o with
  | none => none
  | some q => K q.1 q.2
def gNe {β : Type} (y : Int32) (K : Option β) : Option β := if y = 0 then none else K
def gNel {β : Type} (y : Int64) (K : Option β) : Option β := if y = 0 then none else K
def gNr {β : Type} (ty : FieldType) (v : Int32) (K : Option β) : Option β := if narrow ty (.int v) = .int v then K else none
theorem gLd_e {β : Type} {σ : gS} {k n : Nat} {i : Int32} {K : Int32 → Option β} {z : β} (h : gLd σ k n i K = some z) : ∃ y : Int32, vp_in i n ∧ y = σ.2 k i.toNatClampNeg ∧ K y = some z := by
  unfold gLd at h
  by_cases hin : i < 0 ∨ n ≤ i.toNatClampNeg
  · rw [if_pos hin] at h
    cases h
  · rw [if_neg hin] at h
    exact ⟨_, hin, rfl, h⟩
theorem gSt_e {β : Type} {σ : gS} {k n : Nat} {i v : Int32} {K : gS → Option β} {z : β} (h : gSt σ k n i v K = some z) : ∃ σ1 : gS, vp_in i n ∧ σ1 = sA σ k (upd (σ.2 k) i.toNatClampNeg v) ∧ K σ1 = some z := by
  unfold gSt at h
  by_cases hin : i < 0 ∨ n ≤ i.toNatClampNeg
  · rw [if_pos hin] at h
    cases h
  · rw [if_neg hin] at h
    exact ⟨_, hin, rfl, h⟩
theorem gPut_e {β : Type} {σ : gS} {k : Nat} {x : Int32} {K : gS → Option β} {z : β} (h : gPut σ k x K = some z) : ∃ σ1 : gS, σ1 = sI σ k x ∧ K σ1 = some z := ⟨_, rfl, h⟩
theorem gBd_e {α β : Type} {o : Option (α × gS)} {K : α → gS → Option β} {z : β} (h : gBd o K = some z) : ∃ (y : α) (σ1 : gS), o = some (y, σ1) ∧ K y σ1 = some z := by
  cases o with
  | none => cases h
  | some q => exact ⟨q.1, q.2, rfl, h⟩
theorem gNe_e {β : Type} {y : Int32} {K : Option β} {z : β} (h : gNe y K = some z) : ¬ y = 0 ∧ K = some z := by
  unfold gNe at h
  by_cases hy : y = 0
  · rw [if_pos hy] at h
    cases h
  · rw [if_neg hy] at h
    exact ⟨hy, h⟩
theorem gNel_e {β : Type} {y : Int64} {K : Option β} {z : β} (h : gNel y K = some z) : ¬ y = 0 ∧ K = some z := by
  unfold gNel at h
  by_cases hy : y = 0
  · rw [if_pos hy] at h
    cases h
  · rw [if_neg hy] at h
    exact ⟨hy, h⟩
theorem gNr_e {β : Type} {ty : FieldType} {v : Int32} {K : Option β} {z : β} (h : gNr ty v K = some z) : narrow ty (.int v) = .int v ∧ K = some z := by
  unfold gNr at h
  by_cases hy : narrow ty (.int v) = .int v
  · rw [if_pos hy] at h
    exact ⟨hy, h⟩
  · rw [if_neg hy] at h
    cases h
theorem gRt_e {α : Type} {t r : α} {σ σ' : gS} (h : (some (t, σ) : Option (α × gS)) = some (r, σ')) : t = r ∧ σ = σ' := by
  have h2 := Option.some.inj h
  exact ⟨congrArg Prod.fst h2, congrArg Prod.snd h2⟩
section GW
variable {p : Program} {l : Launch} {e : Env} {R : Room} {s : State} {m : MethodId} {args : Array Value} {below : List Frame} {meth : Method} {c : Code} {H H0 : Heap} {locs : List Loc} {cells slots : Nat} {Q : State → Prop}
variable {X : va_G} {cl : List vw_C} {T : List (ClassId × FieldType)} {ws : va_W} {A : Nat → Prop} {pc : Nat} {ls : Array Slot} {S : Type}
theorem g_preSW {av : List Value} (hN : gN s) (hK : va_K X cl T s) (hP : va_P X cl ws H) (hD : va_D A ws) : PreS s H (gPc X cl T ws H.size av) av := by
  refine ⟨fun a U g mk q => ?_, fun U hU hW => ⟨rfl, by rw [hU], by rw [hU]; exact hP, va_K.moved hW.alike hK, hD.weaken (fun _ _ _ _ => trivial), hN.warm hW⟩⟩
  obtain ⟨q0, q1, qP, qK, qD, qN⟩ := q
  exact ⟨q0, q1, qP, va_K.moved (u := U) (U := U.calling g mk a) (Vm.Alike.refl U.vm) qK, qD, qN.same rfl⟩
theorem g_preVW {b : Nat} {As : List Value} {C : String} {TT : u_T} {N q0 ci : Nat} {fs : List Value} (hN : gN s) (hK : va_K X cl T s) (hP : va_P X cl ws H) (hD : va_D A ws) (hq : ws[q0]? = some (b, .inr (ci, fs))) (hc : cl[ci]? = some (C, TT, N)) : PreV s H C b (gPc X cl T ws H.size (.ref b :: As)) As := by
  have h := g_preSW (av := .ref b :: As) hN hK hP hD
  exact ⟨h.1, va_recv hK hP hc hq, h.2⟩
theorem g_freeW (hD : va_D A ws) (hS : va_S A H0 H locs) (hA : ∀ q : Nat, H0.size ≤ q → A q) : ∀ q : Nat, va_A ws H.size q → A q := by
  intro q h
  rcases h with ⟨k, e, h⟩ | h
  · exact hD.2 k (q, e) h
  · exact hA q (Nat.le_trans hS.1 h)
theorem g_wi {post : Int32 → S → Prop} {w1 : S → va_W} {st0 rest : List Value} {a : Array Value} (hr : va_Run p l e R s m args below meth c H locs cells slots 0 0 (F0 m pc ls st0) rest (gQi X cl ws H.size post w1 a) (va_A ws H.size)) (hD : va_D A ws) (hS : va_S A H0 H locs) (hA : ∀ q : Nat, H0.size ≤ q → A q) (ha : ∀ u, (w1 u).map (fun q => q.1) = ws.map (fun q => q.1))
    (kk : ∀ (r : Int32) (u : S) (H1 : Heap) (locs1 : List Loc), post r u → va_P X cl (w1 u) H1 → va_D A (w1 u) → va_S A H0 H1 locs1 → W p l e R s m args below meth c H1 locs1 cells slots Q (F0 m (pc + 3) ls (.int r :: rest))) : W p l e R s m args below meth c H locs cells slots Q (F0 m pc ls st0) := by
  have hF := g_freeW hD hS hA
  refine va_calli hr hS (fun q _ h => hF q h) hF (fun r u t H1 locs1 ht hvm hp hB hz1 hk1 hS1 => ?_)
  rw [ht] at hB
  exact kk r u H1 locs1 hp hB (g_D hD (ha u)) hS1
theorem g_wl {post : Int64 → S → Prop} {w1 : S → va_W} {st0 rest : List Value} {a : Array Value} (hr : va_Run p l e R s m args below meth c H locs cells slots 0 0 (F0 m pc ls st0) rest (gQl X cl ws H.size post w1 a) (va_A ws H.size)) (hD : va_D A ws) (hS : va_S A H0 H locs) (hA : ∀ q : Nat, H0.size ≤ q → A q) (ha : ∀ u, (w1 u).map (fun q => q.1) = ws.map (fun q => q.1))
    (kk : ∀ (r : Int64) (u : S) (H1 : Heap) (locs1 : List Loc), post r u → va_P X cl (w1 u) H1 → va_D A (w1 u) → va_S A H0 H1 locs1 → W p l e R s m args below meth c H1 locs1 cells slots Q (F0 m (pc + 3) ls (.long r :: rest))) : W p l e R s m args below meth c H locs cells slots Q (F0 m pc ls st0) := by
  have hF := g_freeW hD hS hA
  refine va_calll hr hS (fun q _ h => hF q h) hF (fun r u t H1 locs1 ht hvm hp hB hz1 hk1 hS1 => ?_)
  rw [ht] at hB
  exact kk r u H1 locs1 hp hB (g_D hD (ha u)) hS1
theorem g_wv {post : S → Prop} {w1 : S → va_W} {st0 rest : List Value} {a : Array Value} (hr : va_Run p l e R s m args below meth c H locs cells slots 0 0 (F0 m pc ls st0) rest (gQv X cl ws H.size post w1 a) (va_A ws H.size)) (hD : va_D A ws) (hS : va_S A H0 H locs) (hA : ∀ q : Nat, H0.size ≤ q → A q) (ha : ∀ u, (w1 u).map (fun q => q.1) = ws.map (fun q => q.1))
    (kk : ∀ (u : S) (H1 : Heap) (locs1 : List Loc), post u → va_P X cl (w1 u) H1 → va_D A (w1 u) → va_S A H0 H1 locs1 → W p l e R s m args below meth c H1 locs1 cells slots Q (F0 m (pc + 3) ls rest)) : W p l e R s m args below meth c H locs cells slots Q (F0 m pc ls st0) := by
  have hF := g_freeW hD hS hA
  refine va_callv hr hS (fun q _ h => hF q h) hF (fun u t H1 locs1 ht hvm hp hB hz1 hk1 hS1 => ?_)
  rw [ht] at hB
  exact kk u H1 locs1 hp hB (g_D hD (ha u)) hS1
end GW
end
