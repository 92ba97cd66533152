section
/-- a private method of a class that the tables say can be made, by its rows of tables_1 -/
def lw_okq (q : MethodName × Nat) : Prop := (q.1.cls ≠ "java/lang/invoke/MethodHandle" ∧ q.1.cls ≠ "java/lang/invoke/VarHandle") ∧ Cond.instantiable q.1.cls q.2 ∈ tables_1 ∧ Cond.privateMethod q.1 ∈ tables_1 ∧ Cond.instanceMethod q.1 ∈ tables_1
theorem lw_p0 : lw_okq (⟨"java/lang/Throwable", "fillInStackTrace", "(I)Ljava/lang/Throwable;"⟩, 6) := ⟨⟨by decide +kernel, by decide +kernel⟩, List.mem_of_getElem? (i := 340) (by decide +kernel), List.mem_of_getElem? (i := 338) (by decide +kernel), List.mem_of_getElem? (i := 339) (by decide +kernel)⟩
theorem lw_p1 : lw_okq (⟨"CopiedGraphs", "beginOrRefuse", "(I)I"⟩, 6) := ⟨⟨by decide +kernel, by decide +kernel⟩, List.mem_of_getElem? (i := 19) (by decide +kernel), List.mem_of_getElem? (i := 370) (by decide +kernel), List.mem_of_getElem? (i := 371) (by decide +kernel)⟩
theorem lw_p2 : lw_okq (⟨"CopiedGraphs", "canBePut", "(LCopiedGraphs$Thing;III)Z"⟩, 6) := ⟨⟨by decide +kernel, by decide +kernel⟩, List.mem_of_getElem? (i := 19) (by decide +kernel), List.mem_of_getElem? (i := 440) (by decide +kernel), List.mem_of_getElem? (i := 441) (by decide +kernel)⟩
theorem lw_p3 : lw_okq (⟨"CopiedGraphs$Thing", "setValue", "(III)V"⟩, 11) := ⟨⟨by decide +kernel, by decide +kernel⟩, List.mem_of_getElem? (i := 34) (by decide +kernel), List.mem_of_getElem? (i := 460) (by decide +kernel), List.mem_of_getElem? (i := 461) (by decide +kernel)⟩
theorem lw_p4 : lw_okq (⟨"CopiedGraphs$Thing", "orderedPlace", "(I)I"⟩, 11) := ⟨⟨by decide +kernel, by decide +kernel⟩, List.mem_of_getElem? (i := 34) (by decide +kernel), List.mem_of_getElem? (i := 475) (by decide +kernel), List.mem_of_getElem? (i := 476) (by decide +kernel)⟩
theorem lw_p5 : lw_okq (⟨"CopiedGraphs$Thing", "openGap", "(I)V"⟩, 11) := ⟨⟨by decide +kernel, by decide +kernel⟩, List.mem_of_getElem? (i := 34) (by decide +kernel), List.mem_of_getElem? (i := 479) (by decide +kernel), List.mem_of_getElem? (i := 480) (by decide +kernel)⟩
theorem lw_p6 : lw_okq (⟨"CopiedGraphs$Thing", "viewPart", "(I)J"⟩, 11) := ⟨⟨by decide +kernel, by decide +kernel⟩, List.mem_of_getElem? (i := 34) (by decide +kernel), List.mem_of_getElem? (i := 562) (by decide +kernel), List.mem_of_getElem? (i := 563) (by decide +kernel)⟩
theorem lw_p7 : lw_okq (⟨"CopiedGraphs$Thing", "bytePart", "(II)J"⟩, 11) := ⟨⟨by decide +kernel, by decide +kernel⟩, List.mem_of_getElem? (i := 34) (by decide +kernel), List.mem_of_getElem? (i := 566) (by decide +kernel), List.mem_of_getElem? (i := 567) (by decide +kernel)⟩
theorem lw_p8 : lw_okq (⟨"CopiedGraphs$Thing", "valuePart", "(II)J"⟩, 11) := ⟨⟨by decide +kernel, by decide +kernel⟩, List.mem_of_getElem? (i := 34) (by decide +kernel), List.mem_of_getElem? (i := 572) (by decide +kernel), List.mem_of_getElem? (i := 573) (by decide +kernel)⟩
theorem lw_p9 : lw_okq (⟨"CopiedGraphs$Writer", "writeByte", "(I)V"⟩, 5) := ⟨⟨by decide +kernel, by decide +kernel⟩, List.mem_of_getElem? (i := 152) (by decide +kernel), List.mem_of_getElem? (i := 615) (by decide +kernel), List.mem_of_getElem? (i := 616) (by decide +kernel)⟩
theorem lw_p10 : lw_okq (⟨"CopiedGraphs$Writer", "writeValue", "(LCopiedGraphs$Store;LCopiedGraphs$Handover;III)V"⟩, 5) := ⟨⟨by decide +kernel, by decide +kernel⟩, List.mem_of_getElem? (i := 152) (by decide +kernel), List.mem_of_getElem? (i := 620) (by decide +kernel), List.mem_of_getElem? (i := 621) (by decide +kernel)⟩
theorem lw_p11 : lw_okq (⟨"CopiedGraphs$Writer", "writeObject", "(LCopiedGraphs$Store;LCopiedGraphs$Handover;II)V"⟩, 5) := ⟨⟨by decide +kernel, by decide +kernel⟩, List.mem_of_getElem? (i := 152) (by decide +kernel), List.mem_of_getElem? (i := 624) (by decide +kernel), List.mem_of_getElem? (i := 625) (by decide +kernel)⟩
theorem lw_p12 : lw_okq (⟨"CopiedGraphs$Writer", "writeLengthy", "(J)V"⟩, 5) := ⟨⟨by decide +kernel, by decide +kernel⟩, List.mem_of_getElem? (i := 152) (by decide +kernel), List.mem_of_getElem? (i := 629) (by decide +kernel), List.mem_of_getElem? (i := 630) (by decide +kernel)⟩
theorem lw_p13 : lw_okq (⟨"CopiedGraphs$Writer", "writeView", "(LCopiedGraphs$Store;LCopiedGraphs$Handover;LCopiedGraphs$Thing;I)V"⟩, 5) := ⟨⟨by decide +kernel, by decide +kernel⟩, List.mem_of_getElem? (i := 152) (by decide +kernel), List.mem_of_getElem? (i := 635) (by decide +kernel), List.mem_of_getElem? (i := 636) (by decide +kernel)⟩
theorem lw_p14 : lw_okq (⟨"CopiedGraphs$Writer", "givePlace", "(I)V"⟩, 5) := ⟨⟨by decide +kernel, by decide +kernel⟩, List.mem_of_getElem? (i := 152) (by decide +kernel), List.mem_of_getElem? (i := 639) (by decide +kernel), List.mem_of_getElem? (i := 640) (by decide +kernel)⟩
theorem lw_p15 : lw_okq (⟨"CopiedGraphs$Writer", "writeParts", "(LCopiedGraphs$Store;LCopiedGraphs$Handover;LCopiedGraphs$Thing;I)V"⟩, 5) := ⟨⟨by decide +kernel, by decide +kernel⟩, List.mem_of_getElem? (i := 152) (by decide +kernel), List.mem_of_getElem? (i := 643) (by decide +kernel), List.mem_of_getElem? (i := 644) (by decide +kernel)⟩
def lw_privs_1 : List (MethodName × Nat) := [(⟨"java/lang/Throwable", "fillInStackTrace", "(I)Ljava/lang/Throwable;"⟩, 6), (⟨"CopiedGraphs", "beginOrRefuse", "(I)I"⟩, 6), (⟨"CopiedGraphs", "canBePut", "(LCopiedGraphs$Thing;III)Z"⟩, 6), (⟨"CopiedGraphs$Thing", "setValue", "(III)V"⟩, 11), (⟨"CopiedGraphs$Thing", "orderedPlace", "(I)I"⟩, 11), (⟨"CopiedGraphs$Thing", "openGap", "(I)V"⟩, 11), (⟨"CopiedGraphs$Thing", "viewPart", "(I)J"⟩, 11), (⟨"CopiedGraphs$Thing", "bytePart", "(II)J"⟩, 11), (⟨"CopiedGraphs$Thing", "valuePart", "(II)J"⟩, 11), (⟨"CopiedGraphs$Writer", "writeByte", "(I)V"⟩, 5), (⟨"CopiedGraphs$Writer", "writeValue", "(LCopiedGraphs$Store;LCopiedGraphs$Handover;III)V"⟩, 5), (⟨"CopiedGraphs$Writer", "writeObject", "(LCopiedGraphs$Store;LCopiedGraphs$Handover;II)V"⟩, 5), (⟨"CopiedGraphs$Writer", "writeLengthy", "(J)V"⟩, 5), (⟨"CopiedGraphs$Writer", "writeView", "(LCopiedGraphs$Store;LCopiedGraphs$Handover;LCopiedGraphs$Thing;I)V"⟩, 5), (⟨"CopiedGraphs$Writer", "givePlace", "(I)V"⟩, 5), (⟨"CopiedGraphs$Writer", "writeParts", "(LCopiedGraphs$Store;LCopiedGraphs$Handover;LCopiedGraphs$Thing;I)V"⟩, 5)]
theorem lw_r1 : ∀ q ∈ lw_privs_1, lw_okq q := List.forall_mem_cons.mpr ⟨lw_p0, List.forall_mem_cons.mpr ⟨lw_p1, List.forall_mem_cons.mpr ⟨lw_p2, List.forall_mem_cons.mpr ⟨lw_p3, List.forall_mem_cons.mpr ⟨lw_p4, List.forall_mem_cons.mpr ⟨lw_p5, List.forall_mem_cons.mpr ⟨lw_p6, List.forall_mem_cons.mpr ⟨lw_p7, List.forall_mem_cons.mpr ⟨lw_p8, List.forall_mem_cons.mpr ⟨lw_p9, List.forall_mem_cons.mpr ⟨lw_p10, List.forall_mem_cons.mpr ⟨lw_p11, List.forall_mem_cons.mpr ⟨lw_p12, List.forall_mem_cons.mpr ⟨lw_p13, List.forall_mem_cons.mpr ⟨lw_p14, List.forall_mem_cons.mpr ⟨lw_p15, fun _ h => absurd h List.not_mem_nil⟩⟩⟩⟩⟩⟩⟩⟩⟩⟩⟩⟩⟩⟩⟩⟩
theorem lw_p16 : lw_okq (⟨"CopiedGraphs$Writer", "writeRecord", "(LCopiedGraphs$Store;LCopiedGraphs$Handover;LCopiedGraphs$Thing;I)V"⟩, 5) := ⟨⟨by decide +kernel, by decide +kernel⟩, List.mem_of_getElem? (i := 152) (by decide +kernel), List.mem_of_getElem? (i := 647) (by decide +kernel), List.mem_of_getElem? (i := 648) (by decide +kernel)⟩
theorem lw_p17 : lw_okq (⟨"CopiedGraphs$Writer", "writeProperty", "(LCopiedGraphs$Store;LCopiedGraphs$Handover;LCopiedGraphs$Thing;II)V"⟩, 5) := ⟨⟨by decide +kernel, by decide +kernel⟩, List.mem_of_getElem? (i := 152) (by decide +kernel), List.mem_of_getElem? (i := 655) (by decide +kernel), List.mem_of_getElem? (i := 656) (by decide +kernel)⟩
theorem lw_p18 : lw_okq (⟨"CopiedGraphs$Writer", "runGetter", "(LCopiedGraphs$Store;LCopiedGraphs$Thing;I)V"⟩, 5) := ⟨⟨by decide +kernel, by decide +kernel⟩, List.mem_of_getElem? (i := 152) (by decide +kernel), List.mem_of_getElem? (i := 659) (by decide +kernel), List.mem_of_getElem? (i := 660) (by decide +kernel)⟩
theorem lw_p19 : lw_okq (⟨"CopiedGraphs$Writer", "writeZigzag", "(J)V"⟩, 5) := ⟨⟨by decide +kernel, by decide +kernel⟩, List.mem_of_getElem? (i := 152) (by decide +kernel), List.mem_of_getElem? (i := 672) (by decide +kernel), List.mem_of_getElem? (i := 673) (by decide +kernel)⟩
theorem lw_p20 : lw_okq (⟨"CopiedGraphs$Writer", "writeList", "(LCopiedGraphs$Store;LCopiedGraphs$Handover;LCopiedGraphs$Thing;I)V"⟩, 5) := ⟨⟨by decide +kernel, by decide +kernel⟩, List.mem_of_getElem? (i := 152) (by decide +kernel), List.mem_of_getElem? (i := 676) (by decide +kernel), List.mem_of_getElem? (i := 677) (by decide +kernel)⟩
theorem lw_p21 : lw_okq (⟨"CopiedGraphs$Writer", "writeMap", "(LCopiedGraphs$Store;LCopiedGraphs$Handover;LCopiedGraphs$Thing;I)V"⟩, 5) := ⟨⟨by decide +kernel, by decide +kernel⟩, List.mem_of_getElem? (i := 152) (by decide +kernel), List.mem_of_getElem? (i := 680) (by decide +kernel), List.mem_of_getElem? (i := 681) (by decide +kernel)⟩
theorem lw_p22 : lw_okq (⟨"CopiedGraphs$Writer", "writeSet", "(LCopiedGraphs$Store;LCopiedGraphs$Handover;LCopiedGraphs$Thing;I)V"⟩, 5) := ⟨⟨by decide +kernel, by decide +kernel⟩, List.mem_of_getElem? (i := 152) (by decide +kernel), List.mem_of_getElem? (i := 684) (by decide +kernel), List.mem_of_getElem? (i := 685) (by decide +kernel)⟩
theorem lw_p23 : lw_okq (⟨"CopiedGraphs$Writer", "writeWord", "(JI)V"⟩, 5) := ⟨⟨by decide +kernel, by decide +kernel⟩, List.mem_of_getElem? (i := 152) (by decide +kernel), List.mem_of_getElem? (i := 688) (by decide +kernel), List.mem_of_getElem? (i := 689) (by decide +kernel)⟩
theorem lw_p24 : lw_okq (⟨"CopiedGraphs$Reader", "makeHanded", "(LCopiedGraphs$Store;LCopiedGraphs$Handover;)V"⟩, 7) := ⟨⟨by decide +kernel, by decide +kernel⟩, List.mem_of_getElem? (i := 179) (by decide +kernel), List.mem_of_getElem? (i := 734) (by decide +kernel), List.mem_of_getElem? (i := 735) (by decide +kernel)⟩
theorem lw_p25 : lw_okq (⟨"CopiedGraphs$Reader", "beginThing", "(LCopiedGraphs$Store;I)LCopiedGraphs$Thing;"⟩, 7) := ⟨⟨by decide +kernel, by decide +kernel⟩, List.mem_of_getElem? (i := 179) (by decide +kernel), List.mem_of_getElem? (i := 738) (by decide +kernel), List.mem_of_getElem? (i := 739) (by decide +kernel)⟩
theorem lw_p26 : lw_okq (⟨"CopiedGraphs$Reader", "nextByte", "(LCopiedGraphs$Bytes;)I"⟩, 7) := ⟨⟨by decide +kernel, by decide +kernel⟩, List.mem_of_getElem? (i := 179) (by decide +kernel), List.mem_of_getElem? (i := 745) (by decide +kernel), List.mem_of_getElem? (i := 746) (by decide +kernel)⟩
theorem lw_p27 : lw_okq (⟨"CopiedGraphs$Reader", "readValue", "(LCopiedGraphs$Store;LCopiedGraphs$Bytes;I)V"⟩, 7) := ⟨⟨by decide +kernel, by decide +kernel⟩, List.mem_of_getElem? (i := 179) (by decide +kernel), List.mem_of_getElem? (i := 749) (by decide +kernel), List.mem_of_getElem? (i := 750) (by decide +kernel)⟩
theorem lw_p28 : lw_okq (⟨"CopiedGraphs$Reader", "nextUpTo", "(LCopiedGraphs$Bytes;I)I"⟩, 7) := ⟨⟨by decide +kernel, by decide +kernel⟩, List.mem_of_getElem? (i := 179) (by decide +kernel), List.mem_of_getElem? (i := 753) (by decide +kernel), List.mem_of_getElem? (i := 754) (by decide +kernel)⟩
theorem lw_p29 : lw_okq (⟨"CopiedGraphs$Reader", "nextInt", "(LCopiedGraphs$Bytes;)I"⟩, 7) := ⟨⟨by decide +kernel, by decide +kernel⟩, List.mem_of_getElem? (i := 179) (by decide +kernel), List.mem_of_getElem? (i := 757) (by decide +kernel), List.mem_of_getElem? (i := 758) (by decide +kernel)⟩
theorem lw_p30 : lw_okq (⟨"CopiedGraphs$Reader", "nextZigzag", "(LCopiedGraphs$Bytes;)J"⟩, 7) := ⟨⟨by decide +kernel, by decide +kernel⟩, List.mem_of_getElem? (i := 179) (by decide +kernel), List.mem_of_getElem? (i := 761) (by decide +kernel), List.mem_of_getElem? (i := 762) (by decide +kernel)⟩
theorem lw_p31 : lw_okq (⟨"CopiedGraphs$Reader", "nextLengthy", "(LCopiedGraphs$Bytes;)J"⟩, 7) := ⟨⟨by decide +kernel, by decide +kernel⟩, List.mem_of_getElem? (i := 179) (by decide +kernel), List.mem_of_getElem? (i := 765) (by decide +kernel), List.mem_of_getElem? (i := 766) (by decide +kernel)⟩
def lw_privs_2 : List (MethodName × Nat) := [(⟨"CopiedGraphs$Writer", "writeRecord", "(LCopiedGraphs$Store;LCopiedGraphs$Handover;LCopiedGraphs$Thing;I)V"⟩, 5), (⟨"CopiedGraphs$Writer", "writeProperty", "(LCopiedGraphs$Store;LCopiedGraphs$Handover;LCopiedGraphs$Thing;II)V"⟩, 5), (⟨"CopiedGraphs$Writer", "runGetter", "(LCopiedGraphs$Store;LCopiedGraphs$Thing;I)V"⟩, 5), (⟨"CopiedGraphs$Writer", "writeZigzag", "(J)V"⟩, 5), (⟨"CopiedGraphs$Writer", "writeList", "(LCopiedGraphs$Store;LCopiedGraphs$Handover;LCopiedGraphs$Thing;I)V"⟩, 5), (⟨"CopiedGraphs$Writer", "writeMap", "(LCopiedGraphs$Store;LCopiedGraphs$Handover;LCopiedGraphs$Thing;I)V"⟩, 5), (⟨"CopiedGraphs$Writer", "writeSet", "(LCopiedGraphs$Store;LCopiedGraphs$Handover;LCopiedGraphs$Thing;I)V"⟩, 5), (⟨"CopiedGraphs$Writer", "writeWord", "(JI)V"⟩, 5), (⟨"CopiedGraphs$Reader", "makeHanded", "(LCopiedGraphs$Store;LCopiedGraphs$Handover;)V"⟩, 7), (⟨"CopiedGraphs$Reader", "beginThing", "(LCopiedGraphs$Store;I)LCopiedGraphs$Thing;"⟩, 7), (⟨"CopiedGraphs$Reader", "nextByte", "(LCopiedGraphs$Bytes;)I"⟩, 7), (⟨"CopiedGraphs$Reader", "readValue", "(LCopiedGraphs$Store;LCopiedGraphs$Bytes;I)V"⟩, 7), (⟨"CopiedGraphs$Reader", "nextUpTo", "(LCopiedGraphs$Bytes;I)I"⟩, 7), (⟨"CopiedGraphs$Reader", "nextInt", "(LCopiedGraphs$Bytes;)I"⟩, 7), (⟨"CopiedGraphs$Reader", "nextZigzag", "(LCopiedGraphs$Bytes;)J"⟩, 7), (⟨"CopiedGraphs$Reader", "nextLengthy", "(LCopiedGraphs$Bytes;)J"⟩, 7)]
theorem lw_r2 : ∀ q ∈ lw_privs_2, lw_okq q := List.forall_mem_cons.mpr ⟨lw_p16, List.forall_mem_cons.mpr ⟨lw_p17, List.forall_mem_cons.mpr ⟨lw_p18, List.forall_mem_cons.mpr ⟨lw_p19, List.forall_mem_cons.mpr ⟨lw_p20, List.forall_mem_cons.mpr ⟨lw_p21, List.forall_mem_cons.mpr ⟨lw_p22, List.forall_mem_cons.mpr ⟨lw_p23, List.forall_mem_cons.mpr ⟨lw_p24, List.forall_mem_cons.mpr ⟨lw_p25, List.forall_mem_cons.mpr ⟨lw_p26, List.forall_mem_cons.mpr ⟨lw_p27, List.forall_mem_cons.mpr ⟨lw_p28, List.forall_mem_cons.mpr ⟨lw_p29, List.forall_mem_cons.mpr ⟨lw_p30, List.forall_mem_cons.mpr ⟨lw_p31, fun _ h => absurd h List.not_mem_nil⟩⟩⟩⟩⟩⟩⟩⟩⟩⟩⟩⟩⟩⟩⟩⟩
theorem lw_p32 : lw_okq (⟨"CopiedGraphs$Reader", "settle", "(II)V"⟩, 7) := ⟨⟨by decide +kernel, by decide +kernel⟩, List.mem_of_getElem? (i := 179) (by decide +kernel), List.mem_of_getElem? (i := 769) (by decide +kernel), List.mem_of_getElem? (i := 770) (by decide +kernel)⟩
theorem lw_p33 : lw_okq (⟨"CopiedGraphs$Reader", "readText", "(LCopiedGraphs$Bytes;)V"⟩, 7) := ⟨⟨by decide +kernel, by decide +kernel⟩, List.mem_of_getElem? (i := 179) (by decide +kernel), List.mem_of_getElem? (i := 773) (by decide +kernel), List.mem_of_getElem? (i := 774) (by decide +kernel)⟩
theorem lw_p34 : lw_okq (⟨"CopiedGraphs$Reader", "nextWord", "(LCopiedGraphs$Bytes;I)J"⟩, 7) := ⟨⟨by decide +kernel, by decide +kernel⟩, List.mem_of_getElem? (i := 179) (by decide +kernel), List.mem_of_getElem? (i := 777) (by decide +kernel), List.mem_of_getElem? (i := 778) (by decide +kernel)⟩
theorem lw_p35 : lw_okq (⟨"CopiedGraphs$Reader", "readPlace", "(LCopiedGraphs$Bytes;II)V"⟩, 7) := ⟨⟨by decide +kernel, by decide +kernel⟩, List.mem_of_getElem? (i := 179) (by decide +kernel), List.mem_of_getElem? (i := 782) (by decide +kernel), List.mem_of_getElem? (i := 783) (by decide +kernel)⟩
theorem lw_p36 : lw_okq (⟨"CopiedGraphs$Reader", "readView", "(LCopiedGraphs$Store;LCopiedGraphs$Bytes;I)V"⟩, 7) := ⟨⟨by decide +kernel, by decide +kernel⟩, List.mem_of_getElem? (i := 179) (by decide +kernel), List.mem_of_getElem? (i := 786) (by decide +kernel), List.mem_of_getElem? (i := 787) (by decide +kernel)⟩
theorem lw_p37 : lw_okq (⟨"CopiedGraphs$Reader", "readObject", "(LCopiedGraphs$Store;LCopiedGraphs$Bytes;II)V"⟩, 7) := ⟨⟨by decide +kernel, by decide +kernel⟩, List.mem_of_getElem? (i := 179) (by decide +kernel), List.mem_of_getElem? (i := 792) (by decide +kernel), List.mem_of_getElem? (i := 793) (by decide +kernel)⟩
theorem lw_p38 : lw_okq (⟨"CopiedGraphs$Reader", "readRecord", "(LCopiedGraphs$Store;LCopiedGraphs$Bytes;LCopiedGraphs$Thing;I)V"⟩, 7) := ⟨⟨by decide +kernel, by decide +kernel⟩, List.mem_of_getElem? (i := 179) (by decide +kernel), List.mem_of_getElem? (i := 796) (by decide +kernel), List.mem_of_getElem? (i := 797) (by decide +kernel)⟩
theorem lw_p39 : lw_okq (⟨"CopiedGraphs$Reader", "readList", "(LCopiedGraphs$Store;LCopiedGraphs$Bytes;LCopiedGraphs$Thing;I)V"⟩, 7) := ⟨⟨by decide +kernel, by decide +kernel⟩, List.mem_of_getElem? (i := 179) (by decide +kernel), List.mem_of_getElem? (i := 802) (by decide +kernel), List.mem_of_getElem? (i := 803) (by decide +kernel)⟩
theorem lw_p40 : lw_okq (⟨"CopiedGraphs$Reader", "readMap", "(LCopiedGraphs$Store;LCopiedGraphs$Bytes;LCopiedGraphs$Thing;I)V"⟩, 7) := ⟨⟨by decide +kernel, by decide +kernel⟩, List.mem_of_getElem? (i := 179) (by decide +kernel), List.mem_of_getElem? (i := 807) (by decide +kernel), List.mem_of_getElem? (i := 808) (by decide +kernel)⟩
theorem lw_p41 : lw_okq (⟨"CopiedGraphs$Reader", "readSet", "(LCopiedGraphs$Store;LCopiedGraphs$Bytes;LCopiedGraphs$Thing;I)V"⟩, 7) := ⟨⟨by decide +kernel, by decide +kernel⟩, List.mem_of_getElem? (i := 179) (by decide +kernel), List.mem_of_getElem? (i := 812) (by decide +kernel), List.mem_of_getElem? (i := 813) (by decide +kernel)⟩
theorem lw_p42 : lw_okq (⟨"CopiedGraphs$Reader", "readBuffer", "(LCopiedGraphs$Bytes;LCopiedGraphs$Thing;)V"⟩, 7) := ⟨⟨by decide +kernel, by decide +kernel⟩, List.mem_of_getElem? (i := 179) (by decide +kernel), List.mem_of_getElem? (i := 818) (by decide +kernel), List.mem_of_getElem? (i := 819) (by decide +kernel)⟩
theorem lw_p43 : lw_okq (⟨"CopiedGraphsModel", "refused", "(ZZ)Z"⟩, 37) := ⟨⟨by decide +kernel, by decide +kernel⟩, List.mem_of_getElem? (i := 823) (by decide +kernel), List.mem_of_getElem? (i := 950) (by decide +kernel), List.mem_of_getElem? (i := 951) (by decide +kernel)⟩
theorem lw_p44 : lw_okq (⟨"CopiedGraphsModel", "fresh", "(I)I"⟩, 37) := ⟨⟨by decide +kernel, by decide +kernel⟩, List.mem_of_getElem? (i := 823) (by decide +kernel), List.mem_of_getElem? (i := 954) (by decide +kernel), List.mem_of_getElem? (i := 955) (by decide +kernel)⟩
theorem lw_p45 : lw_okq (⟨"CopiedGraphsModel", "begin", "(II)V"⟩, 37) := ⟨⟨by decide +kernel, by decide +kernel⟩, List.mem_of_getElem? (i := 823) (by decide +kernel), List.mem_of_getElem? (i := 958) (by decide +kernel), List.mem_of_getElem? (i := 959) (by decide +kernel)⟩
theorem lw_p46 : lw_okq (⟨"CopiedGraphsModel", "is", "(II)Z"⟩, 37) := ⟨⟨by decide +kernel, by decide +kernel⟩, List.mem_of_getElem? (i := 823) (by decide +kernel), List.mem_of_getElem? (i := 971) (by decide +kernel), List.mem_of_getElem? (i := 972) (by decide +kernel)⟩
theorem lw_p47 : lw_okq (⟨"CopiedGraphsModel", "isObject", "(I)Z"⟩, 37) := ⟨⟨by decide +kernel, by decide +kernel⟩, List.mem_of_getElem? (i := 823) (by decide +kernel), List.mem_of_getElem? (i := 975) (by decide +kernel), List.mem_of_getElem? (i := 976) (by decide +kernel)⟩
def lw_privs_3 : List (MethodName × Nat) := [(⟨"CopiedGraphs$Reader", "settle", "(II)V"⟩, 7), (⟨"CopiedGraphs$Reader", "readText", "(LCopiedGraphs$Bytes;)V"⟩, 7), (⟨"CopiedGraphs$Reader", "nextWord", "(LCopiedGraphs$Bytes;I)J"⟩, 7), (⟨"CopiedGraphs$Reader", "readPlace", "(LCopiedGraphs$Bytes;II)V"⟩, 7), (⟨"CopiedGraphs$Reader", "readView", "(LCopiedGraphs$Store;LCopiedGraphs$Bytes;I)V"⟩, 7), (⟨"CopiedGraphs$Reader", "readObject", "(LCopiedGraphs$Store;LCopiedGraphs$Bytes;II)V"⟩, 7), (⟨"CopiedGraphs$Reader", "readRecord", "(LCopiedGraphs$Store;LCopiedGraphs$Bytes;LCopiedGraphs$Thing;I)V"⟩, 7), (⟨"CopiedGraphs$Reader", "readList", "(LCopiedGraphs$Store;LCopiedGraphs$Bytes;LCopiedGraphs$Thing;I)V"⟩, 7), (⟨"CopiedGraphs$Reader", "readMap", "(LCopiedGraphs$Store;LCopiedGraphs$Bytes;LCopiedGraphs$Thing;I)V"⟩, 7), (⟨"CopiedGraphs$Reader", "readSet", "(LCopiedGraphs$Store;LCopiedGraphs$Bytes;LCopiedGraphs$Thing;I)V"⟩, 7), (⟨"CopiedGraphs$Reader", "readBuffer", "(LCopiedGraphs$Bytes;LCopiedGraphs$Thing;)V"⟩, 7), (⟨"CopiedGraphsModel", "refused", "(ZZ)Z"⟩, 37), (⟨"CopiedGraphsModel", "fresh", "(I)I"⟩, 37), (⟨"CopiedGraphsModel", "begin", "(II)V"⟩, 37), (⟨"CopiedGraphsModel", "is", "(II)Z"⟩, 37), (⟨"CopiedGraphsModel", "isObject", "(I)Z"⟩, 37)]
theorem lw_r3 : ∀ q ∈ lw_privs_3, lw_okq q := List.forall_mem_cons.mpr ⟨lw_p32, List.forall_mem_cons.mpr ⟨lw_p33, List.forall_mem_cons.mpr ⟨lw_p34, List.forall_mem_cons.mpr ⟨lw_p35, List.forall_mem_cons.mpr ⟨lw_p36, List.forall_mem_cons.mpr ⟨lw_p37, List.forall_mem_cons.mpr ⟨lw_p38, List.forall_mem_cons.mpr ⟨lw_p39, List.forall_mem_cons.mpr ⟨lw_p40, List.forall_mem_cons.mpr ⟨lw_p41, List.forall_mem_cons.mpr ⟨lw_p42, List.forall_mem_cons.mpr ⟨lw_p43, List.forall_mem_cons.mpr ⟨lw_p44, List.forall_mem_cons.mpr ⟨lw_p45, List.forall_mem_cons.mpr ⟨lw_p46, List.forall_mem_cons.mpr ⟨lw_p47, fun _ h => absurd h List.not_mem_nil⟩⟩⟩⟩⟩⟩⟩⟩⟩⟩⟩⟩⟩⟩⟩⟩
theorem lw_p48 : lw_okq (⟨"CopiedGraphsModel", "setView", "(IIIII)V"⟩, 37) := ⟨⟨by decide +kernel, by decide +kernel⟩, List.mem_of_getElem? (i := 823) (by decide +kernel), List.mem_of_getElem? (i := 985) (by decide +kernel), List.mem_of_getElem? (i := 986) (by decide +kernel)⟩
theorem lw_p49 : lw_okq (⟨"CopiedGraphsModel", "isValue", "(II)Z"⟩, 37) := ⟨⟨by decide +kernel, by decide +kernel⟩, List.mem_of_getElem? (i := 823) (by decide +kernel), List.mem_of_getElem? (i := 997) (by decide +kernel), List.mem_of_getElem? (i := 998) (by decide +kernel)⟩
theorem lw_p50 : lw_okq (⟨"CopiedGraphsModel", "slotOf", "(II)I"⟩, 37) := ⟨⟨by decide +kernel, by decide +kernel⟩, List.mem_of_getElem? (i := 823) (by decide +kernel), List.mem_of_getElem? (i := 1004) (by decide +kernel), List.mem_of_getElem? (i := 1005) (by decide +kernel)⟩
theorem lw_p51 : lw_okq (⟨"CopiedGraphsModel", "setProperty", "(IIII)V"⟩, 37) := ⟨⟨by decide +kernel, by decide +kernel⟩, List.mem_of_getElem? (i := 823) (by decide +kernel), List.mem_of_getElem? (i := 1008) (by decide +kernel), List.mem_of_getElem? (i := 1009) (by decide +kernel)⟩
theorem lw_p52 : lw_okq (⟨"CopiedGraphsModel", "copySlot", "(II)V"⟩, 37) := ⟨⟨by decide +kernel, by decide +kernel⟩, List.mem_of_getElem? (i := 823) (by decide +kernel), List.mem_of_getElem? (i := 1012) (by decide +kernel), List.mem_of_getElem? (i := 1013) (by decide +kernel)⟩
theorem lw_p53 : lw_okq (⟨"CopiedGraphsModel", "setSlot", "(III)V"⟩, 37) := ⟨⟨by decide +kernel, by decide +kernel⟩, List.mem_of_getElem? (i := 823) (by decide +kernel), List.mem_of_getElem? (i := 1016) (by decide +kernel), List.mem_of_getElem? (i := 1017) (by decide +kernel)⟩
theorem lw_p54 : lw_okq (⟨"CopiedGraphsModel", "takeProperty", "(II)Z"⟩, 37) := ⟨⟨by decide +kernel, by decide +kernel⟩, List.mem_of_getElem? (i := 823) (by decide +kernel), List.mem_of_getElem? (i := 1027) (by decide +kernel), List.mem_of_getElem? (i := 1028) (by decide +kernel)⟩
theorem lw_p55 : lw_okq (⟨"CopiedGraphsModel", "entryOf", "(III)I"⟩, 37) := ⟨⟨by decide +kernel, by decide +kernel⟩, List.mem_of_getElem? (i := 823) (by decide +kernel), List.mem_of_getElem? (i := 1035) (by decide +kernel), List.mem_of_getElem? (i := 1036) (by decide +kernel)⟩
theorem lw_p56 : lw_okq (⟨"CopiedGraphsModel", "hasMember", "(III)Z"⟩, 37) := ⟨⟨by decide +kernel, by decide +kernel⟩, List.mem_of_getElem? (i := 823) (by decide +kernel), List.mem_of_getElem? (i := 1043) (by decide +kernel), List.mem_of_getElem? (i := 1044) (by decide +kernel)⟩
theorem lw_p57 : lw_okq (⟨"CopiedGraphsModel", "detachNow", "(I)V"⟩, 37) := ⟨⟨by decide +kernel, by decide +kernel⟩, List.mem_of_getElem? (i := 823) (by decide +kernel), List.mem_of_getElem? (i := 1051) (by decide +kernel), List.mem_of_getElem? (i := 1052) (by decide +kernel)⟩
theorem lw_p58 : lw_okq (⟨"CopiedGraphsModel", "canPass", "()Z"⟩, 37) := ⟨⟨by decide +kernel, by decide +kernel⟩, List.mem_of_getElem? (i := 823) (by decide +kernel), List.mem_of_getElem? (i := 1088) (by decide +kernel), List.mem_of_getElem? (i := 1089) (by decide +kernel)⟩
theorem lw_p59 : lw_okq (⟨"CopiedGraphsModel", "passOf", "(I)I"⟩, 37) := ⟨⟨by decide +kernel, by decide +kernel⟩, List.mem_of_getElem? (i := 823) (by decide +kernel), List.mem_of_getElem? (i := 1092) (by decide +kernel), List.mem_of_getElem? (i := 1093) (by decide +kernel)⟩
theorem lw_p60 : lw_okq (⟨"CopiedGraphsModel", "say", "(I)V"⟩, 37) := ⟨⟨by decide +kernel, by decide +kernel⟩, List.mem_of_getElem? (i := 823) (by decide +kernel), List.mem_of_getElem? (i := 1096) (by decide +kernel), List.mem_of_getElem? (i := 1097) (by decide +kernel)⟩
theorem lw_p61 : lw_okq (⟨"CopiedGraphsModel", "sayValue", "(II)V"⟩, 37) := ⟨⟨by decide +kernel, by decide +kernel⟩, List.mem_of_getElem? (i := 823) (by decide +kernel), List.mem_of_getElem? (i := 1100) (by decide +kernel), List.mem_of_getElem? (i := 1101) (by decide +kernel)⟩
theorem lw_p62 : lw_okq (⟨"CopiedGraphsModel", "sayLengthy", "(J)V"⟩, 37) := ⟨⟨by decide +kernel, by decide +kernel⟩, List.mem_of_getElem? (i := 823) (by decide +kernel), List.mem_of_getElem? (i := 1107) (by decide +kernel), List.mem_of_getElem? (i := 1108) (by decide +kernel)⟩
theorem lw_p63 : lw_okq (⟨"CopiedGraphsModel", "sayObject", "(I)V"⟩, 37) := ⟨⟨by decide +kernel, by decide +kernel⟩, List.mem_of_getElem? (i := 823) (by decide +kernel), List.mem_of_getElem? (i := 1115) (by decide +kernel), List.mem_of_getElem? (i := 1116) (by decide +kernel)⟩
def lw_privs_4 : List (MethodName × Nat) := [(⟨"CopiedGraphsModel", "setView", "(IIIII)V"⟩, 37), (⟨"CopiedGraphsModel", "isValue", "(II)Z"⟩, 37), (⟨"CopiedGraphsModel", "slotOf", "(II)I"⟩, 37), (⟨"CopiedGraphsModel", "setProperty", "(IIII)V"⟩, 37), (⟨"CopiedGraphsModel", "copySlot", "(II)V"⟩, 37), (⟨"CopiedGraphsModel", "setSlot", "(III)V"⟩, 37), (⟨"CopiedGraphsModel", "takeProperty", "(II)Z"⟩, 37), (⟨"CopiedGraphsModel", "entryOf", "(III)I"⟩, 37), (⟨"CopiedGraphsModel", "hasMember", "(III)Z"⟩, 37), (⟨"CopiedGraphsModel", "detachNow", "(I)V"⟩, 37), (⟨"CopiedGraphsModel", "canPass", "()Z"⟩, 37), (⟨"CopiedGraphsModel", "passOf", "(I)I"⟩, 37), (⟨"CopiedGraphsModel", "say", "(I)V"⟩, 37), (⟨"CopiedGraphsModel", "sayValue", "(II)V"⟩, 37), (⟨"CopiedGraphsModel", "sayLengthy", "(J)V"⟩, 37), (⟨"CopiedGraphsModel", "sayObject", "(I)V"⟩, 37)]
theorem lw_r4 : ∀ q ∈ lw_privs_4, lw_okq q := List.forall_mem_cons.mpr ⟨lw_p48, List.forall_mem_cons.mpr ⟨lw_p49, List.forall_mem_cons.mpr ⟨lw_p50, List.forall_mem_cons.mpr ⟨lw_p51, List.forall_mem_cons.mpr ⟨lw_p52, List.forall_mem_cons.mpr ⟨lw_p53, List.forall_mem_cons.mpr ⟨lw_p54, List.forall_mem_cons.mpr ⟨lw_p55, List.forall_mem_cons.mpr ⟨lw_p56, List.forall_mem_cons.mpr ⟨lw_p57, List.forall_mem_cons.mpr ⟨lw_p58, List.forall_mem_cons.mpr ⟨lw_p59, List.forall_mem_cons.mpr ⟨lw_p60, List.forall_mem_cons.mpr ⟨lw_p61, List.forall_mem_cons.mpr ⟨lw_p62, List.forall_mem_cons.mpr ⟨lw_p63, fun _ h => absurd h List.not_mem_nil⟩⟩⟩⟩⟩⟩⟩⟩⟩⟩⟩⟩⟩⟩⟩⟩
theorem lw_p64 : lw_okq (⟨"CopiedGraphsModel", "push", "(II)V"⟩, 37) := ⟨⟨by decide +kernel, by decide +kernel⟩, List.mem_of_getElem? (i := 823) (by decide +kernel), List.mem_of_getElem? (i := 1119) (by decide +kernel), List.mem_of_getElem? (i := 1120) (by decide +kernel)⟩
theorem lw_p65 : lw_okq (⟨"CopiedGraphsModel", "getPlace", "(I)V"⟩, 37) := ⟨⟨by decide +kernel, by decide +kernel⟩, List.mem_of_getElem? (i := 823) (by decide +kernel), List.mem_of_getElem? (i := 1123) (by decide +kernel), List.mem_of_getElem? (i := 1124) (by decide +kernel)⟩
theorem lw_p66 : lw_okq (⟨"CopiedGraphsModel", "sayNext", "()V"⟩, 37) := ⟨⟨by decide +kernel, by decide +kernel⟩, List.mem_of_getElem? (i := 823) (by decide +kernel), List.mem_of_getElem? (i := 1127) (by decide +kernel), List.mem_of_getElem? (i := 1128) (by decide +kernel)⟩
theorem lw_p67 : lw_okq (⟨"CopiedGraphsModel", "sayProperty", "(II)V"⟩, 37) := ⟨⟨by decide +kernel, by decide +kernel⟩, List.mem_of_getElem? (i := 823) (by decide +kernel), List.mem_of_getElem? (i := 1131) (by decide +kernel), List.mem_of_getElem? (i := 1132) (by decide +kernel)⟩
theorem lw_p68 : lw_okq (⟨"CopiedGraphsModel", "run", "(II)I"⟩, 37) := ⟨⟨by decide +kernel, by decide +kernel⟩, List.mem_of_getElem? (i := 823) (by decide +kernel), List.mem_of_getElem? (i := 1135) (by decide +kernel), List.mem_of_getElem? (i := 1136) (by decide +kernel)⟩
theorem lw_p69 : lw_okq (⟨"CopiedGraphsModel", "handOver", "()V"⟩, 37) := ⟨⟨by decide +kernel, by decide +kernel⟩, List.mem_of_getElem? (i := 823) (by decide +kernel), List.mem_of_getElem? (i := 1139) (by decide +kernel), List.mem_of_getElem? (i := 1140) (by decide +kernel)⟩
theorem lw_p70 : lw_okq (⟨"CopiedGraphsModel", "takeAll", "()V"⟩, 37) := ⟨⟨by decide +kernel, by decide +kernel⟩, List.mem_of_getElem? (i := 823) (by decide +kernel), List.mem_of_getElem? (i := 1147) (by decide +kernel), List.mem_of_getElem? (i := 1148) (by decide +kernel)⟩
theorem lw_p71 : lw_okq (⟨"CopiedGraphsModel", "takeHolders", "()V"⟩, 37) := ⟨⟨by decide +kernel, by decide +kernel⟩, List.mem_of_getElem? (i := 823) (by decide +kernel), List.mem_of_getElem? (i := 1151) (by decide +kernel), List.mem_of_getElem? (i := 1152) (by decide +kernel)⟩
theorem lw_p72 : lw_okq (⟨"CopiedGraphsModel", "nextObject", "(I)I"⟩, 37) := ⟨⟨by decide +kernel, by decide +kernel⟩, List.mem_of_getElem? (i := 823) (by decide +kernel), List.mem_of_getElem? (i := 1155) (by decide +kernel), List.mem_of_getElem? (i := 1156) (by decide +kernel)⟩
theorem lw_p73 : lw_okq (⟨"CopiedGraphsModel", "next", "()I"⟩, 37) := ⟨⟨by decide +kernel, by decide +kernel⟩, List.mem_of_getElem? (i := 823) (by decide +kernel), List.mem_of_getElem? (i := 1159) (by decide +kernel), List.mem_of_getElem? (i := 1160) (by decide +kernel)⟩
theorem lw_p74 : lw_okq (⟨"CopiedGraphsModel", "takeValue", "()Z"⟩, 37) := ⟨⟨by decide +kernel, by decide +kernel⟩, List.mem_of_getElem? (i := 823) (by decide +kernel), List.mem_of_getElem? (i := 1163) (by decide +kernel), List.mem_of_getElem? (i := 1164) (by decide +kernel)⟩
theorem lw_p75 : lw_okq (⟨"CopiedGraphsModel", "got", "(II)V"⟩, 37) := ⟨⟨by decide +kernel, by decide +kernel⟩, List.mem_of_getElem? (i := 823) (by decide +kernel), List.mem_of_getElem? (i := 1167) (by decide +kernel), List.mem_of_getElem? (i := 1168) (by decide +kernel)⟩
theorem lw_p76 : lw_okq (⟨"CopiedGraphsModel", "lengthy", "(I)J"⟩, 37) := ⟨⟨by decide +kernel, by decide +kernel⟩, List.mem_of_getElem? (i := 823) (by decide +kernel), List.mem_of_getElem? (i := 1171) (by decide +kernel), List.mem_of_getElem? (i := 1172) (by decide +kernel)⟩
theorem lw_p77 : lw_okq (⟨"CopiedGraphsModel", "text", "()I"⟩, 37) := ⟨⟨by decide +kernel, by decide +kernel⟩, List.mem_of_getElem? (i := 823) (by decide +kernel), List.mem_of_getElem? (i := 1178) (by decide +kernel), List.mem_of_getElem? (i := 1179) (by decide +kernel)⟩
theorem lw_p78 : lw_okq (⟨"CopiedGraphsModel", "nextUpTo", "(I)I"⟩, 37) := ⟨⟨by decide +kernel, by decide +kernel⟩, List.mem_of_getElem? (i := 823) (by decide +kernel), List.mem_of_getElem? (i := 1182) (by decide +kernel), List.mem_of_getElem? (i := 1183) (by decide +kernel)⟩
theorem lw_p79 : lw_okq (⟨"CopiedGraphsModel", "takePlace", "(II)V"⟩, 37) := ⟨⟨by decide +kernel, by decide +kernel⟩, List.mem_of_getElem? (i := 823) (by decide +kernel), List.mem_of_getElem? (i := 1186) (by decide +kernel), List.mem_of_getElem? (i := 1187) (by decide +kernel)⟩
def lw_privs_5 : List (MethodName × Nat) := [(⟨"CopiedGraphsModel", "push", "(II)V"⟩, 37), (⟨"CopiedGraphsModel", "getPlace", "(I)V"⟩, 37), (⟨"CopiedGraphsModel", "sayNext", "()V"⟩, 37), (⟨"CopiedGraphsModel", "sayProperty", "(II)V"⟩, 37), (⟨"CopiedGraphsModel", "run", "(II)I"⟩, 37), (⟨"CopiedGraphsModel", "handOver", "()V"⟩, 37), (⟨"CopiedGraphsModel", "takeAll", "()V"⟩, 37), (⟨"CopiedGraphsModel", "takeHolders", "()V"⟩, 37), (⟨"CopiedGraphsModel", "nextObject", "(I)I"⟩, 37), (⟨"CopiedGraphsModel", "next", "()I"⟩, 37), (⟨"CopiedGraphsModel", "takeValue", "()Z"⟩, 37), (⟨"CopiedGraphsModel", "got", "(II)V"⟩, 37), (⟨"CopiedGraphsModel", "lengthy", "(I)J"⟩, 37), (⟨"CopiedGraphsModel", "text", "()I"⟩, 37), (⟨"CopiedGraphsModel", "nextUpTo", "(I)I"⟩, 37), (⟨"CopiedGraphsModel", "takePlace", "(II)V"⟩, 37)]
theorem lw_r5 : ∀ q ∈ lw_privs_5, lw_okq q := List.forall_mem_cons.mpr ⟨lw_p64, List.forall_mem_cons.mpr ⟨lw_p65, List.forall_mem_cons.mpr ⟨lw_p66, List.forall_mem_cons.mpr ⟨lw_p67, List.forall_mem_cons.mpr ⟨lw_p68, List.forall_mem_cons.mpr ⟨lw_p69, List.forall_mem_cons.mpr ⟨lw_p70, List.forall_mem_cons.mpr ⟨lw_p71, List.forall_mem_cons.mpr ⟨lw_p72, List.forall_mem_cons.mpr ⟨lw_p73, List.forall_mem_cons.mpr ⟨lw_p74, List.forall_mem_cons.mpr ⟨lw_p75, List.forall_mem_cons.mpr ⟨lw_p76, List.forall_mem_cons.mpr ⟨lw_p77, List.forall_mem_cons.mpr ⟨lw_p78, List.forall_mem_cons.mpr ⟨lw_p79, fun _ h => absurd h List.not_mem_nil⟩⟩⟩⟩⟩⟩⟩⟩⟩⟩⟩⟩⟩⟩⟩⟩
theorem lw_p80 : lw_okq (⟨"CopiedGraphsModel", "takeMany", "(I)V"⟩, 37) := ⟨⟨by decide +kernel, by decide +kernel⟩, List.mem_of_getElem? (i := 823) (by decide +kernel), List.mem_of_getElem? (i := 1190) (by decide +kernel), List.mem_of_getElem? (i := 1191) (by decide +kernel)⟩
theorem lw_p81 : lw_okq (⟨"CopiedGraphsModel", "enroll", "(I)V"⟩, 37) := ⟨⟨by decide +kernel, by decide +kernel⟩, List.mem_of_getElem? (i := 823) (by decide +kernel), List.mem_of_getElem? (i := 1194) (by decide +kernel), List.mem_of_getElem? (i := 1195) (by decide +kernel)⟩
theorem lw_p82 : lw_okq (⟨"CopiedGraphsModel", "takeBuffer", "()V"⟩, 37) := ⟨⟨by decide +kernel, by decide +kernel⟩, List.mem_of_getElem? (i := 823) (by decide +kernel), List.mem_of_getElem? (i := 1198) (by decide +kernel), List.mem_of_getElem? (i := 1199) (by decide +kernel)⟩
theorem lw_p83 : lw_okq (⟨"CopiedGraphsModel", "takeStamp", "()V"⟩, 37) := ⟨⟨by decide +kernel, by decide +kernel⟩, List.mem_of_getElem? (i := 823) (by decide +kernel), List.mem_of_getElem? (i := 1202) (by decide +kernel), List.mem_of_getElem? (i := 1203) (by decide +kernel)⟩
theorem lw_p84 : lw_okq (⟨"CopiedGraphsModel", "goesOn", "()I"⟩, 37) := ⟨⟨by decide +kernel, by decide +kernel⟩, List.mem_of_getElem? (i := 823) (by decide +kernel), List.mem_of_getElem? (i := 1206) (by decide +kernel), List.mem_of_getElem? (i := 1207) (by decide +kernel)⟩
theorem lw_p85 : lw_okq (⟨"CopiedGraphsModel", "finish", "(I)V"⟩, 37) := ⟨⟨by decide +kernel, by decide +kernel⟩, List.mem_of_getElem? (i := 823) (by decide +kernel), List.mem_of_getElem? (i := 1210) (by decide +kernel), List.mem_of_getElem? (i := 1211) (by decide +kernel)⟩
theorem lw_p86 : lw_okq (⟨"CopiedGraphsModel", "deliver", "()V"⟩, 37) := ⟨⟨by decide +kernel, by decide +kernel⟩, List.mem_of_getElem? (i := 823) (by decide +kernel), List.mem_of_getElem? (i := 1214) (by decide +kernel), List.mem_of_getElem? (i := 1215) (by decide +kernel)⟩
def lw_privs_6 : List (MethodName × Nat) := [(⟨"CopiedGraphsModel", "takeMany", "(I)V"⟩, 37), (⟨"CopiedGraphsModel", "enroll", "(I)V"⟩, 37), (⟨"CopiedGraphsModel", "takeBuffer", "()V"⟩, 37), (⟨"CopiedGraphsModel", "takeStamp", "()V"⟩, 37), (⟨"CopiedGraphsModel", "goesOn", "()I"⟩, 37), (⟨"CopiedGraphsModel", "finish", "(I)V"⟩, 37), (⟨"CopiedGraphsModel", "deliver", "()V"⟩, 37)]
theorem lw_r6 : ∀ q ∈ lw_privs_6, lw_okq q := List.forall_mem_cons.mpr ⟨lw_p80, List.forall_mem_cons.mpr ⟨lw_p81, List.forall_mem_cons.mpr ⟨lw_p82, List.forall_mem_cons.mpr ⟨lw_p83, List.forall_mem_cons.mpr ⟨lw_p84, List.forall_mem_cons.mpr ⟨lw_p85, List.forall_mem_cons.mpr ⟨lw_p86, fun _ h => absurd h List.not_mem_nil⟩⟩⟩⟩⟩⟩⟩
def lw_privs : List (MethodName × Nat) := lw_privs_1 ++ (lw_privs_2 ++ (lw_privs_3 ++ (lw_privs_4 ++ (lw_privs_5 ++ (lw_privs_6)))))
def lw_tbl : List Cond := k2_sels lw_privs ++ tables_1
theorem lw_privs_ok : ∀ q ∈ lw_privs, lw_okq q := by
  show ∀ q ∈ lw_privs_1 ++ (lw_privs_2 ++ (lw_privs_3 ++ (lw_privs_4 ++ (lw_privs_5 ++ (lw_privs_6))))), lw_okq q
  exact List.forall_mem_append.mpr ⟨lw_r1, List.forall_mem_append.mpr ⟨lw_r2, List.forall_mem_append.mpr ⟨lw_r3, List.forall_mem_append.mpr ⟨lw_r4, List.forall_mem_append.mpr ⟨lw_r5, lw_r6⟩⟩⟩⟩⟩
end
section
/-! tables of the small machine, by program out of the Statement: owners, classes, fields, pool numbers, methods -/
def gx_on : List String := ["CopiedGraphs", "CopiedGraphs$Store", "CopiedGraphs$Thing", "CopiedGraphs$Bytes", "CopiedGraphs$Handover", "CopiedGraphs$Writer", "CopiedGraphs$Reader", "CopiedGraphsLaw", "java/lang/Math", "CopiedGraphsModel"]
def gx_o (i : Nat) : String := gx_on.getD i ""
def gx_T0 : u_T := fun k => match k with
  | 0 => ("CopiedGraphs", "store", "LCopiedGraphs$Store;", true)
  | 1 => ("CopiedGraphs", "bytes", "LCopiedGraphs$Bytes;", true)
  | 2 => ("CopiedGraphs", "handover", "LCopiedGraphs$Handover;", true)
  | 3 => ("CopiedGraphs", "writer", "LCopiedGraphs$Writer;", true)
  | 4 => ("CopiedGraphs", "reader", "LCopiedGraphs$Reader;", true)
  | _ => ("CopiedGraphs", "foundNumber", "I", false)
def gx_T1 : u_T := fun k => match k with
  | 0 => ("CopiedGraphs$Store", "things", "[LCopiedGraphs$Thing;", true)
  | _ => ("CopiedGraphs$Store", "count", "I", false)
def gx_T2 : u_T := fun k => match k with
  | 0 => ("CopiedGraphs$Thing", "keyKinds", "[I", true)
  | 1 => ("CopiedGraphs$Thing", "keys", "[I", true)
  | 2 => ("CopiedGraphs$Thing", "kinds", "[I", true)
  | 3 => ("CopiedGraphs$Thing", "numbers", "[I", true)
  | 4 => ("CopiedGraphs$Thing", "sort", "I", false)
  | 5 => ("CopiedGraphs$Thing", "count", "I", false)
  | 6 => ("CopiedGraphs$Thing", "detached", "Z", false)
  | 7 => ("CopiedGraphs$Thing", "viewed", "I", false)
  | 8 => ("CopiedGraphs$Thing", "unit", "I", false)
  | 9 => ("CopiedGraphs$Thing", "from", "I", false)
  | _ => ("CopiedGraphs$Thing", "word", "J", false)
def gx_T3 : u_T := fun k => match k with
  | 0 => ("CopiedGraphs$Bytes", "row", "[I", true)
  | _ => ("CopiedGraphs$Bytes", "count", "I", false)
def gx_T4 : u_T := fun k => match k with
  | 0 => ("CopiedGraphs$Handover", "passed", "[I", true)
  | 1 => ("CopiedGraphs$Handover", "passedCount", "I", false)
  | 2 => ("CopiedGraphs$Handover", "words", "[J", true)
  | 3 => ("CopiedGraphs$Handover", "lengths", "[I", true)
  | _ => ("CopiedGraphs$Handover", "holderCount", "I", false)
def gx_T5 : u_T := fun k => match k with
  | 0 => ("CopiedGraphs$Writer", "draft", "LCopiedGraphs$Bytes;", true)
  | 1 => ("CopiedGraphs$Writer", "places", "[I", true)
  | 2 => ("CopiedGraphs$Writer", "placeCount", "I", false)
  | 3 => ("CopiedGraphs$Writer", "keysAtDepth", "[[I", true)
  | _ => ("CopiedGraphs$Writer", "outcome", "I", false)
def gx_T6 : u_T := fun k => match k with
  | 0 => ("CopiedGraphs$Reader", "position", "I", false)
  | 1 => ("CopiedGraphs$Reader", "wrong", "Z", false)
  | 2 => ("CopiedGraphs$Reader", "kind", "I", false)
  | 3 => ("CopiedGraphs$Reader", "number", "I", false)
  | 4 => ("CopiedGraphs$Reader", "firstHanded", "I", false)
  | 5 => ("CopiedGraphs$Reader", "handedCount", "I", false)
  | _ => ("CopiedGraphs$Reader", "firstInRow", "I", false)
def gx_T7 : u_T := fun k => match k with
  | 0 => ("CopiedGraphsModel", "thrown", "I", false)
  | 1 => ("CopiedGraphsModel", "objects", "I", false)
  | 2 => ("CopiedGraphsModel", "types", "[I", true)
  | 3 => ("CopiedGraphsModel", "counts", "[I", true)
  | 4 => ("CopiedGraphsModel", "detached", "[Z", true)
  | 5 => ("CopiedGraphsModel", "stamps", "[J", true)
  | 6 => ("CopiedGraphsModel", "keys", "[I", true)
  | 7 => ("CopiedGraphsModel", "keyKinds", "[I", true)
  | 8 => ("CopiedGraphsModel", "kinds", "[I", true)
  | 9 => ("CopiedGraphsModel", "numbers", "[I", true)
  | 10 => ("CopiedGraphsModel", "passed", "I", false)
  | 11 => ("CopiedGraphsModel", "passes", "[I", true)
  | 12 => ("CopiedGraphsModel", "holders", "I", false)
  | 13 => ("CopiedGraphsModel", "heldCounts", "[I", true)
  | 14 => ("CopiedGraphsModel", "held", "[I", true)
  | 15 => ("CopiedGraphsModel", "length", "I", false)
  | 16 => ("CopiedGraphsModel", "bytes", "[I", true)
  | 17 => ("CopiedGraphsModel", "found", "I", false)
  | 18 => ("CopiedGraphsModel", "pile", "I", false)
  | 19 => ("CopiedGraphsModel", "inside", "[I", true)
  | 20 => ("CopiedGraphsModel", "step", "[I", true)
  | 21 => ("CopiedGraphsModel", "wanted", "[I", true)
  | 22 => ("CopiedGraphsModel", "hadKeys", "[I", true)
  | 23 => ("CopiedGraphsModel", "units", "[I", true)
  | 24 => ("CopiedGraphsModel", "froms", "[I", true)
  | 25 => ("CopiedGraphsModel", "viewCounts", "[I", true)
  | 26 => ("CopiedGraphsModel", "bad", "I", false)
  | 27 => ("CopiedGraphsModel", "outs", "I", false)
  | 28 => ("CopiedGraphsModel", "out", "[I", true)
  | 29 => ("CopiedGraphsModel", "begun", "I", false)
  | 30 => ("CopiedGraphsModel", "place", "[I", true)
  | 31 => ("CopiedGraphsModel", "good", "Z", false)
  | 32 => ("CopiedGraphsModel", "at", "I", false)
  | 33 => ("CopiedGraphsModel", "made", "I", false)
  | 34 => ("CopiedGraphsModel", "row", "[I", true)
  | 35 => ("CopiedGraphsModel", "gotKind", "I", false)
  | _ => ("CopiedGraphsModel", "gotNumber", "I", false)
def gx_TX : u_T := fun _ => ("", "", "", false)
def gx_cl : List vw_C := [("CopiedGraphs", gx_T0, 6), ("CopiedGraphs$Store", gx_T1, 2), ("CopiedGraphs$Thing", gx_T2, 11), ("CopiedGraphs$Bytes", gx_T3, 2), ("CopiedGraphs$Handover", gx_T4, 5), ("CopiedGraphs$Writer", gx_T5, 5), ("CopiedGraphs$Reader", gx_T6, 7), ("CopiedGraphsModel", gx_T7, 37), ("java/lang/IllegalArgumentException", gx_TX, 0), ("java/lang/IllegalStateException", gx_TX, 0), ("java/lang/IndexOutOfBoundsException", gx_TX, 0), ("java/util/NoSuchElementException", gx_TX, 0)]
def gx_ftl : List (List FieldType) := [[(.object "CopiedGraphs$Store"), (.object "CopiedGraphs$Bytes"), (.object "CopiedGraphs$Handover"), (.object "CopiedGraphs$Writer"), (.object "CopiedGraphs$Reader"), .int], [(.array (.object "CopiedGraphs$Thing")), .int], [(.array .int), (.array .int), (.array .int), (.array .int), .int, .int, .boolean, .int, .int, .int, .long], [(.array .int), .int], [(.array .int), .int, (.array .long), (.array .int), .int], [(.object "CopiedGraphs$Bytes"), (.array .int), .int, (.array (.array .int)), .int], [.int, .boolean, .int, .int, .int, .int, .int], [.int, .int, (.array .int), (.array .int), (.array .boolean), (.array .long), (.array .int), (.array .int), (.array .int), (.array .int), .int, (.array .int), .int, (.array .int), (.array .int), .int, (.array .int), .int, .int, (.array .int), (.array .int), (.array .int), (.array .int), (.array .int), (.array .int), (.array .int), .int, .int, (.array .int), .int, (.array .int), .boolean, .int, .int, (.array .int), .int, .int]]
def gx_fty (ci k : Nat) : FieldType := ((gx_ftl[ci]?).getD []).getD k .int
def gx_elem : String := "CopiedGraphs$Thing"
def gx_ei : Nat := 2
def gx_host : String := "CopiedGraphs"
def gx_FT : List (Nat × Nat × Nat × Nat) := [(2, 9, 2, 0), (5, 187, 2, 0), (2, 15, 2, 1), (5, 142, 2, 1), (2, 18, 2, 2), (5, 159, 2, 2), (2, 21, 2, 3), (5, 162, 2, 3), (2, 24, 2, 4), (1, 30, 2, 4), (0, 95, 2, 4), (5, 97, 2, 4), (2, 28, 2, 5), (4, 46, 2, 5), (5, 122, 2, 5), (0, 161, 2, 5), (2, 31, 2, 6), (1, 33, 2, 6), (4, 49, 2, 6), (5, 102, 2, 6), (0, 157, 2, 6), (2, 39, 2, 7), (5, 123, 2, 7), (2, 42, 2, 8), (5, 116, 2, 8), (2, 45, 2, 9), (5, 119, 2, 9), (2, 35, 2, 10), (0, 85, 2, 10), (4, 40, 2, 10), (5, 138, 2, 10), (6, 154, 2, 10), (1, 11, 1, 0), (0, 61, 1, 0), (1, 18, 1, 1), (6, 9, 1, 1), (0, 148, 1, 1), (3, 9, 3, 0), (6, 79, 3, 0), (0, 222, 3, 0), (3, 15, 3, 1), (5, 27, 3, 1), (6, 36, 3, 1), (0, 203, 3, 1), (4, 9, 4, 0), (4, 22, 4, 1), (0, 151, 4, 1), (4, 15, 4, 2), (6, 54, 4, 2), (4, 19, 4, 3), (6, 58, 4, 3), (6, 42, 4, 4), (4, 53, 4, 4), (0, 154, 4, 4), (5, 12, 5, 0), (0, 189, 5, 0), (5, 18, 5, 1), (5, 31, 5, 2), (5, 24, 5, 3), (5, 50, 5, 4), (6, 15, 6, 0), (6, 20, 6, 1), (6, 89, 6, 2), (0, 212, 6, 2), (6, 92, 6, 3), (0, 209, 6, 3), (6, 39, 6, 4), (6, 47, 6, 5), (6, 68, 6, 6), (0, 10, 0, 0), (0, 19, 0, 1), (0, 26, 0, 2), (0, 33, 0, 3), (0, 40, 0, 4), (0, 44, 0, 5), (9, 78, 7, 0), (9, 82, 7, 1), (9, 7, 7, 2), (9, 13, 7, 3), (9, 16, 7, 4), (9, 20, 7, 5), (9, 24, 7, 6), (9, 27, 7, 7), (9, 30, 7, 8), (9, 33, 7, 9), (9, 160, 7, 10), (9, 36, 7, 11), (9, 157, 7, 12), (9, 39, 7, 13), (9, 42, 7, 14), (9, 224, 7, 15), (9, 45, 7, 16), (9, 299, 7, 17), (9, 179, 7, 18), (9, 48, 7, 19), (9, 51, 7, 20), (9, 54, 7, 21), (9, 57, 7, 22), (9, 60, 7, 23), (9, 63, 7, 24), (9, 66, 7, 25), (9, 168, 7, 26), (9, 171, 7, 27), (9, 69, 7, 28), (9, 182, 7, 29), (9, 72, 7, 30), (9, 227, 7, 31), (9, 231, 7, 32), (9, 238, 7, 33), (9, 75, 7, 34), (9, 241, 7, 35), (9, 244, 7, 36)]
def gx_KI : List (Nat × Nat × Int32) := []
def gx_KL : List (Nat × Nat × Int64) := [(2, 80, 4), (5, 65, 127), (9, 104, 255), (9, 163, 4), (9, 174, 127), (7, 77, 4294967295)]
def gx_CT : List (Nat × Nat × Nat) := [(7, 8, 0), (0, 7, 1), (1, 9, 2), (0, 16, 3), (0, 23, 4), (0, 30, 5), (5, 9, 3), (0, 37, 6), (7, 65, 7)]
/-- pool numbers of exception classes -/
def gx_XT : List (Nat × Nat × Nat) := [(7, 13, 8), (7, 15, 9), (0, 48, 8), (0, 109, 9), (7, 49, 10), (0, 165, 10), (7, 58, 11), (0, 198, 11)]
def gx_MT : List (Nat × Nat × Nat × Bool) := [(7, 64, 0, false), (0, 9, 1, false), (1, 17, 2, true), (0, 18, 3, true), (0, 25, 4, true), (0, 32, 5, true), (5, 11, 3, true), (0, 39, 6, true), (7, 107, 7, false), (0, 145, 8, false), (1, 37, 9, false), (1, 26, 10, false), (7, 112, 11, false), (7, 116, 12, false), (7, 120, 13, false), (0, 71, 10, false), (7, 124, 14, false), (7, 134, 15, false), (7, 145, 16, false), (7, 149, 17, false), (0, 215, 18, false), (0, 219, 19, false), (7, 153, 20, false), (7, 157, 21, false), (7, 161, 22, false), (7, 68, 23, false), (7, 7, 24, false), (0, 55, 25, false), (0, 226, 26, false), (1, 22, 27, false), (7, 79, 28, false), (7, 17, 29, false), (0, 65, 30, false), (7, 83, 31, false), (7, 21, 32, false), (0, 75, 33, false), (0, 81, 34, false), (7, 87, 35, false), (7, 25, 36, false), (7, 91, 37, false), (7, 29, 38, false), (0, 89, 39, false), (0, 123, 40, false), (1, 41, 41, false), (1, 44, 18, true), (0, 98, 42, false), (0, 102, 43, false), (2, 48, 44, false), (2, 64, 45, false), (0, 106, 46, false), (2, 52, 47, false), (2, 56, 48, false), (2, 60, 49, false), (7, 95, 50, false), (7, 33, 51, false), (0, 116, 52, false), (0, 120, 53, false), (7, 99, 54, false), (7, 37, 55, false), (0, 129, 56, false), (7, 103, 57, false), (7, 41, 58, false), (0, 137, 59, false), (0, 140, 60, false), (7, 128, 61, false), (7, 45, 62, false), (0, 162, 63, false), (0, 170, 64, false), (2, 69, 65, false), (2, 73, 66, false), (2, 82, 18, true), (2, 77, 67, false), (7, 131, 68, false), (7, 51, 69, false), (0, 176, 70, false), (7, 138, 71, false), (7, 54, 72, false), (0, 181, 73, false), (5, 34, 40, false), (5, 40, 74, false), (4, 26, 9, false), (5, 46, 75, false), (4, 32, 76, false), (5, 53, 77, false), (5, 61, 19, false), (5, 57, 78, false), (5, 75, 79, false), (5, 90, 10, false), (5, 67, 80, false), (5, 94, 76, false), (5, 106, 81, false), (5, 110, 82, false), (5, 113, 83, false), (5, 126, 84, false), (5, 151, 47, false), (5, 155, 85, false), (5, 165, 86, false), (5, 169, 87, false), (5, 174, 88, false), (5, 177, 52, false), (5, 180, 46, false), (5, 184, 8, false), (5, 79, 89, false), (5, 129, 90, false), (5, 132, 91, false), (5, 135, 92, false), (5, 86, 93, false), (5, 71, 18, true), (5, 82, 94, false), (0, 185, 95, false), (4, 36, 10, false), (0, 192, 96, false), (7, 141, 97, false), (7, 60, 98, false), (0, 204, 99, false), (6, 24, 100, false), (6, 50, 101, false), (6, 71, 26, false), (6, 75, 10, false), (6, 62, 30, false), (6, 28, 102, false), (6, 32, 103, false), (6, 95, 104, false), (6, 99, 105, false), (6, 86, 106, false), (6, 82, 107, false), (6, 102, 108, false), (6, 106, 109, false), (6, 121, 110, false), (6, 125, 18, true), (6, 110, 111, false), (6, 114, 112, false), (6, 129, 33, false), (6, 133, 34, false), (6, 117, 113, false), (6, 137, 114, false), (6, 158, 47, false), (6, 162, 46, false), (6, 141, 115, false), (6, 165, 43, false), (6, 144, 116, false), (6, 169, 56, false), (6, 147, 117, false), (6, 173, 59, false), (6, 177, 60, false), (6, 150, 118, false), (7, 67, 119, false), (7, 74, 120, false), (7, 73, 121, false), (9, 96, 122, false), (9, 100, 123, false), (9, 92, 124, false), (7, 82, 125, false), (7, 86, 126, false), (9, 109, 127, false), (9, 85, 128, false), (9, 113, 129, false), (9, 106, 130, false), (9, 117, 131, false), (7, 90, 132, false), (7, 94, 133, false), (9, 135, 134, false), (9, 89, 135, false), (9, 125, 136, false), (9, 138, 137, false), (9, 128, 138, false), (9, 131, 139, false), (9, 121, 140, false), (7, 98, 141, false), (9, 142, 142, false), (7, 102, 143, false), (9, 145, 144, false), (7, 106, 145, false), (9, 149, 146, false), (7, 111, 147, false), (9, 153, 148, false), (7, 115, 149, false), (7, 119, 150, false), (7, 123, 151, false), (7, 127, 152, false), (7, 130, 153, false), (7, 133, 154, false), (7, 137, 155, false), (7, 140, 156, false), (9, 214, 157, false), (9, 165, 158, false), (9, 176, 159, false), (9, 208, 160, false), (9, 185, 161, false), (9, 189, 162, false), (9, 193, 163, false), (9, 196, 164, false), (9, 199, 165, false), (9, 202, 166, false), (9, 218, 167, false), (9, 211, 168, false), (9, 205, 169, false), (9, 221, 170, false), (7, 144, 171, false), (9, 296, 172, false), (9, 284, 173, false), (9, 250, 174, false), (9, 234, 175, false), (9, 287, 176, false), (9, 256, 177, false), (9, 259, 178, false), (9, 263, 179, false), (9, 266, 180, false), (9, 247, 181, false), (9, 269, 182, false), (9, 272, 183, false), (9, 253, 184, false), (9, 275, 185, false), (9, 278, 186, false), (9, 290, 187, false), (9, 281, 188, false), (9, 293, 189, false), (7, 148, 190, false), (7, 152, 191, false), (7, 156, 192, false), (7, 160, 193, false), (7, 164, 194, false)]
/-- Object.<init>, System.arraycopy -/
def gx_OT : List (Nat × Nat × Unit) := [(0, 1, ()), (1, 3, ()), (2, 3, ()), (3, 3, ()), (4, 3, ()), (5, 3, ()), (6, 3, ()), (9, 1, ())]
def gx_AT : List (Nat × Nat × Unit) := [(5, 145, ()), (3, 19, ())]
def gx_RT : List (Nat × Nat × Unit) := [(5, 22, ())]
def gx_TH : List (Nat × Nat × Nat × Nat × Nat) := [(0, 48, 50, 52, 8), (0, 109, 229, 113, 9), (0, 48, 59, 52, 8), (0, 48, 79, 52, 8), (0, 48, 93, 52, 8), (0, 109, 111, 113, 9), (0, 48, 114, 52, 8), (0, 48, 127, 52, 8), (0, 109, 133, 113, 9), (0, 48, 135, 52, 8), (0, 109, 143, 113, 9), (0, 165, 167, 169, 10), (0, 48, 174, 52, 8), (0, 109, 179, 113, 9), (0, 48, 196, 52, 8), (0, 198, 200, 202, 11), (0, 48, 207, 52, 8)]
/-- a method: name, bytes, (locals, answer, handlers), (owner, kind: 0 static, 1 virtual, 2 constructor, 9 the law itself; parameters; receiver), instructions by blocks of 64 bytes -/
abbrev gx_E : Type := MethodName × ByteArray × (Nat × Option FieldType × List (Nat × Nat × Nat × Nat)) × (Nat × Nat × Nat × Nat) × List (List (Nat × Instr))
def gx_e0 : gx_E := (⟨"CopiedGraphs", "<init>", "()V"⟩, prog_1_method_1_code, (1, (Option.none : Option Jvm.ClassFile.FieldType), []), (0, 2, 0, 0), [[(0, .aload_n 0), (1, .invokespecial 1), (4, .aload_n 0), (5, .new 7), (8, .dup), (9, .invokespecial 9), (12, .putfield 10), (15, .aload_n 0), (16, .new 16), (19, .dup), (20, .invokespecial 18), (23, .putfield 19), (26, .aload_n 0), (27, .new 23), (30, .dup), (31, .invokespecial 25), (34, .putfield 26), (37, .aload_n 0), (38, .new 30), (41, .dup), (42, .invokespecial 32), (45, .putfield 33), (48, .aload_n 0), (49, .new 37), (52, .dup), (53, .invokespecial 39), (56, .putfield 40), (59, .aload_n 0), (60, .iconst 0), (61, .putfield 44)], [(64, .return_)]])
def gx_e1 : gx_E := (⟨"CopiedGraphs$Store", "<init>", "()V"⟩, prog_5_method_1_code, (2, (Option.none : Option Jvm.ClassFile.FieldType), []), (1, 2, 0, 1), [[(0, .aload_n 0), (1, .invokespecial 3), (4, .aload_n 0), (5, .bipush 32), (7, .anewarray 9), (10, .putfield 11), (13, .iconst 0), (14, .istore_n 1), (15, .iload_n 1), (16, .bipush 32), (18, .if_icmp .ge 22), (21, .aload_n 0), (22, .getfield 11), (25, .iload_n 1), (26, .new 9), (29, .dup), (30, .invokespecial 17), (33, .aastore), (34, .iinc 1 1), (37, .goto (-22)), (40, .return_)]])
def gx_e2 : gx_E := (⟨"CopiedGraphs$Thing", "<init>", "()V"⟩, prog_6_method_1_code, (1, (Option.none : Option Jvm.ClassFile.FieldType), []), (2, 2, 0, 2), [[(0, .aload_n 0), (1, .invokespecial 3), (4, .aload_n 0), (5, .bipush 8), (7, .newarray .int), (9, .putfield 9), (12, .aload_n 0), (13, .bipush 8), (15, .newarray .int), (17, .putfield 15), (20, .aload_n 0), (21, .bipush 8), (23, .newarray .int), (25, .putfield 18), (28, .aload_n 0), (29, .bipush 8), (31, .newarray .int), (33, .putfield 21), (36, .return_)]])
def gx_e3 : gx_E := (⟨"CopiedGraphs$Bytes", "<init>", "()V"⟩, prog_2_method_1_code, (1, (Option.none : Option Jvm.ClassFile.FieldType), []), (3, 2, 0, 3), [[(0, .aload_n 0), (1, .invokespecial 3), (4, .aload_n 0), (5, .sipush 300), (8, .newarray .int), (10, .putfield 9), (13, .return_)]])
def gx_e4 : gx_E := (⟨"CopiedGraphs$Handover", "<init>", "()V"⟩, prog_3_method_1_code, (1, (Option.none : Option Jvm.ClassFile.FieldType), []), (4, 2, 0, 4), [[(0, .aload_n 0), (1, .invokespecial 3), (4, .aload_n 0), (5, .iconst 4), (6, .newarray .int), (8, .putfield 9), (11, .aload_n 0), (12, .iconst 4), (13, .newarray .long), (15, .putfield 15), (18, .aload_n 0), (19, .iconst 4), (20, .newarray .int), (22, .putfield 19), (25, .return_)]])
def gx_e5 : gx_E := (⟨"CopiedGraphs$Writer", "<init>", "()V"⟩, prog_7_method_1_code, (1, (Option.none : Option Jvm.ClassFile.FieldType), []), (5, 2, 0, 5), [[(0, .aload_n 0), (1, .invokespecial 3), (4, .aload_n 0), (5, .new 9), (8, .dup), (9, .invokespecial 11), (12, .putfield 12), (15, .aload_n 0), (16, .bipush 32), (18, .newarray .int), (20, .putfield 18), (23, .aload_n 0), (24, .bipush 13), (26, .bipush 6), (28, .multianewarray 22 2), (32, .putfield 24), (35, .return_)]])
def gx_e6 : gx_E := (⟨"CopiedGraphs$Reader", "<init>", "()V"⟩, prog_4_method_1_code, (1, (Option.none : Option Jvm.ClassFile.FieldType), []), (6, 2, 0, 6), [[(0, .aload_n 0), (1, .invokespecial 3), (4, .return_)]])
def gx_e7 : gx_E := (⟨"CopiedGraphs", "detach", "(I)Z"⟩, prog_1_method_10_code, (2, (Option.some Jvm.ClassFile.FieldType.boolean), []), (0, 1, 1, 0), [[(0, .aload_n 0), (1, .getfield 10), (4, .iload_n 1), (5, .invokevirtual 145), (8, .ireturn)]])
def gx_e8 : gx_E := (⟨"CopiedGraphs$Store", "detachBuffer", "(I)Z"⟩, prog_5_method_5_code, (2, (Option.some Jvm.ClassFile.FieldType.boolean), []), (1, 1, 1, 1), [[(0, .aload_n 0), (1, .iload_n 1), (2, .invokevirtual 37), (5, .ifCond .ne 5), (8, .iconst 0), (9, .ireturn), (10, .aload_n 0), (11, .getfield 11), (14, .iload_n 1), (15, .aaload), (16, .iconst 1), (17, .putfield 33), (20, .iconst 1), (21, .ireturn)]])
def gx_e9 : gx_E := (⟨"CopiedGraphs$Store", "isFreeBuffer", "(I)Z"⟩, prog_5_method_4_code, (3, (Option.some Jvm.ClassFile.FieldType.boolean), []), (1, 1, 1, 1), [[(0, .aload_n 0), (1, .iload_n 1), (2, .invokevirtual 26), (5, .astore_n 2), (6, .aload_n 2), (7, .ifnull 22), (10, .aload_n 2), (11, .getfield 30), (14, .iconst 4), (15, .if_icmp .ne 14), (18, .aload_n 2), (19, .getfield 33), (22, .ifCond .ne 7), (25, .iconst 1), (26, .goto 4), (29, .iconst 0), (30, .ireturn)]])
def gx_e10 : gx_E := (⟨"CopiedGraphs$Store", "thingAt", "(I)LCopiedGraphs$Thing;"⟩, prog_5_method_3_code, (2, (Option.some (Jvm.ClassFile.FieldType.object "CopiedGraphs$Thing")), []), (1, 1, 1, 1), [[(0, .iload_n 1), (1, .ifCond .lt 11), (4, .iload_n 1), (5, .aload_n 0), (6, .getfield 18), (9, .if_icmp .lt 7), (12, .aconst_null), (13, .goto 9), (16, .aload_n 0), (17, .getfield 11), (20, .iload_n 1), (21, .aaload), (22, .areturn)]])
def gx_e11 : gx_E := (⟨"CopiedGraphs", "clear", "()I"⟩, prog_1_method_11_code, (2, (Option.some Jvm.ClassFile.FieldType.int), []), (0, 1, 0, 0), [[(0, .aload_n 0), (1, .getfield 10), (4, .getfield 148), (7, .istore_n 1), (8, .aload_n 0), (9, .getfield 10), (12, .iconst 0), (13, .putfield 148), (16, .aload_n 0), (17, .getfield 26), (20, .iconst 0), (21, .putfield 151), (24, .aload_n 0), (25, .getfield 26), (28, .iconst 0), (29, .putfield 154), (32, .iload_n 1), (33, .ireturn)]])
def gx_e12 : gx_E := (⟨"CopiedGraphs", "objects", "()I"⟩, prog_1_method_12_code, (1, (Option.some Jvm.ClassFile.FieldType.int), []), (0, 1, 0, 0), [[(0, .aload_n 0), (1, .getfield 10), (4, .getfield 148), (7, .ireturn)]])
def gx_e13 : gx_E := (⟨"CopiedGraphs", "type", "(I)I"⟩, prog_1_method_13_code, (3, (Option.some Jvm.ClassFile.FieldType.int), []), (0, 1, 1, 0), [[(0, .aload_n 0), (1, .getfield 10), (4, .iload_n 1), (5, .invokevirtual 71), (8, .astore_n 2), (9, .aload_n 2), (10, .ifnonnull 7), (13, .iconst (-1)), (14, .goto 7), (17, .aload_n 2), (18, .getfield 95), (21, .ireturn)]])
def gx_e14 : gx_E := (⟨"CopiedGraphs", "size", "(I)I"⟩, prog_1_method_14_code, (3, (Option.some Jvm.ClassFile.FieldType.int), []), (0, 1, 1, 0), [[(0, .aload_n 0), (1, .getfield 10), (4, .iload_n 1), (5, .invokevirtual 71), (8, .astore_n 2), (9, .aload_n 2), (10, .ifnull 28), (13, .aload_n 2), (14, .getfield 95), (17, .bipush 6), (19, .if_icmp .eq 19), (22, .aload_n 2), (23, .getfield 95), (26, .bipush 7), (28, .if_icmp .eq 10), (31, .aload_n 2), (32, .getfield 157), (35, .ifCond .eq 5), (38, .iconst (-1)), (39, .ireturn), (40, .aload_n 2), (41, .getfield 161), (44, .ireturn)]])
def gx_e15 : gx_E := (⟨"CopiedGraphs", "holders", "()I"⟩, prog_1_method_17_code, (1, (Option.some Jvm.ClassFile.FieldType.int), []), (0, 1, 0, 0), [[(0, .aload_n 0), (1, .getfield 26), (4, .getfield 154), (7, .ireturn)]])
def gx_e16 : gx_E := (⟨"CopiedGraphs", "found", "()I"⟩, prog_1_method_20_code, (1, (Option.some Jvm.ClassFile.FieldType.int), []), (0, 1, 0, 0), [[(0, .aload_n 0), (1, .getfield 44), (4, .ireturn)]])
def gx_e17 : gx_E := (⟨"CopiedGraphs", "feed", "(JI)I"⟩, prog_1_method_21_code, (5, (Option.some Jvm.ClassFile.FieldType.int), []), (0, 1, 2, 0), [[(0, .iload_n 3), (1, .iconst 1), (2, .if_icmp .lt 24), (5, .iload_n 3), (6, .bipush 8), (8, .if_icmp .gt 18), (11, .aload_n 0), (12, .getfield 19), (15, .getfield 203), (18, .iload_n 3), (19, .iadd), (20, .sipush 300), (23, .if_icmp .le 5), (26, .iconst (-1)), (27, .ireturn), (28, .iconst 0), (29, .istore 4), (31, .iload 4), (33, .iload_n 3), (34, .if_icmp .ge 23), (37, .aload_n 0), (38, .getfield 19), (41, .lload_n 1), (42, .iload 4), (44, .invokestatic 215), (47, .invokevirtual 219), (50, .pop), (51, .iinc 4 1), (54, .goto (-23)), (57, .aload_n 0), (58, .getfield 19), (61, .getfield 203)], [(64, .ireturn)]])
def gx_e18 : gx_E := (⟨"CopiedGraphs", "byteOf", "(JI)I"⟩, prog_1_method_28_code, (3, (Option.some Jvm.ClassFile.FieldType.int), []), (0, 0, 2, 0), [[(0, .lload_n 0), (1, .bipush 8), (3, .iload_n 2), (4, .imul), (5, .lushr), (6, .l2i), (7, .sipush 255), (10, .iand), (11, .ireturn)]])
def gx_e19 : gx_E := (⟨"CopiedGraphs$Bytes", "append", "(I)Z"⟩, prog_2_method_2_code, (2, (Option.some Jvm.ClassFile.FieldType.boolean), []), (3, 1, 1, 3), [[(0, .aload_n 0), (1, .getfield 15), (4, .sipush 300), (7, .if_icmp .lt 5), (10, .iconst 0), (11, .ireturn), (12, .aload_n 0), (13, .getfield 9), (16, .aload_n 0), (17, .getfield 15), (20, .iload_n 1), (21, .iastore), (22, .aload_n 0), (23, .dup), (24, .getfield 15), (27, .iconst 1), (28, .iadd), (29, .putfield 15), (32, .iconst 1), (33, .ireturn)]])
def gx_e20 : gx_E := (⟨"CopiedGraphs", "wipe", "()I"⟩, prog_1_method_22_code, (2, (Option.some Jvm.ClassFile.FieldType.int), []), (0, 1, 0, 0), [[(0, .aload_n 0), (1, .getfield 19), (4, .getfield 203), (7, .istore_n 1), (8, .aload_n 0), (9, .getfield 19), (12, .iconst 0), (13, .putfield 203), (16, .iload_n 1), (17, .ireturn)]])
def gx_e21 : gx_E := (⟨"CopiedGraphs", "spoil", "(II)Z"⟩, prog_1_method_23_code, (3, (Option.some Jvm.ClassFile.FieldType.boolean), []), (0, 1, 2, 0), [[(0, .iload_n 1), (1, .ifCond .lt 14), (4, .iload_n 1), (5, .aload_n 0), (6, .getfield 19), (9, .getfield 203), (12, .if_icmp .lt 5), (15, .iconst 0), (16, .ireturn), (17, .aload_n 0), (18, .getfield 19), (21, .getfield 222), (24, .iload_n 1), (25, .iload_n 2), (26, .sipush 255), (29, .iand), (30, .iastore), (31, .iconst 1), (32, .ireturn)]])
def gx_e22 : gx_E := (⟨"CopiedGraphs", "byteAt", "(I)I"⟩, prog_1_method_24_code, (2, (Option.some Jvm.ClassFile.FieldType.int), []), (0, 1, 1, 0), [[(0, .iload_n 1), (1, .ifCond .lt 14), (4, .iload_n 1), (5, .aload_n 0), (6, .getfield 19), (9, .getfield 203), (12, .if_icmp .lt 7), (15, .iconst (-1)), (16, .goto 12), (19, .aload_n 0), (20, .getfield 19), (23, .getfield 222), (26, .iload_n 1), (27, .iaload), (28, .ireturn)]])
def gx_e23 : gx_E := (⟨"CopiedGraphsLaw", "make", "(LCopiedGraphs;I[J)I"⟩, method_3_code, (4, (Option.some Jvm.ClassFile.FieldType.int), [(0, 9, 12, 13), (0, 9, 15, 15)]), (7, 0, 3, 0), [[(0, .aload_n 2), (1, .iconst 0), (2, .aload_n 0), (3, .iload_n 1), (4, .invokevirtual 7), (7, .i2l), (8, .lastore), (9, .goto 9), (12, .astore_n 3), (13, .iconst 1), (14, .ireturn), (15, .astore_n 3), (16, .iconst 2), (17, .ireturn), (18, .iconst 0), (19, .ireturn)]])
def gx_e24 : gx_E := (⟨"CopiedGraphs", "make", "(I)I"⟩, prog_1_method_2_code, (2, (Option.some Jvm.ClassFile.FieldType.int), []), (0, 1, 1, 0), [[(0, .iload_n 1), (1, .ifCond .lt 8), (4, .iload_n 1), (5, .iconst 3), (6, .if_icmp .le 19), (9, .iload_n 1), (10, .bipush 7), (12, .if_icmp .eq 13), (15, .new 48), (18, .dup), (19, .ldc 50), (21, .invokespecial 52), (24, .athrow), (25, .aload_n 0), (26, .iload_n 1), (27, .invokevirtual 55), (30, .ireturn)]])
def gx_e25 : gx_E := (⟨"CopiedGraphs", "beginOrRefuse", "(I)I"⟩, prog_1_method_25_code, (3, (Option.some Jvm.ClassFile.FieldType.int), []), (0, 1, 1, 0), [[(0, .aload_n 0), (1, .getfield 10), (4, .iload_n 1), (5, .invokevirtual 226), (8, .istore_n 2), (9, .iload_n 2), (10, .iconst (-1)), (11, .if_icmp .ne 13), (14, .new 109), (17, .dup), (18, .ldc 229), (20, .invokespecial 113), (23, .athrow), (24, .iload_n 2), (25, .ireturn)]])
def gx_e26 : gx_E := (⟨"CopiedGraphs$Store", "begin", "(I)I"⟩, prog_5_method_2_code, (2, (Option.some Jvm.ClassFile.FieldType.int), []), (1, 1, 1, 1), [[(0, .aload_n 0), (1, .getfield 18), (4, .bipush 32), (6, .if_icmp .lt 5), (9, .iconst (-1)), (10, .ireturn), (11, .aload_n 0), (12, .getfield 11), (15, .aload_n 0), (16, .getfield 18), (19, .aaload), (20, .iload_n 1), (21, .invokevirtual 22), (24, .aload_n 0), (25, .dup), (26, .getfield 18), (29, .iconst 1), (30, .iadd), (31, .putfield 18), (34, .aload_n 0), (35, .getfield 18), (38, .iconst 1), (39, .isub), (40, .ireturn)]])
def gx_e27 : gx_E := (⟨"CopiedGraphs$Thing", "begin", "(I)V"⟩, prog_6_method_2_code, (2, (Option.none : Option Jvm.ClassFile.FieldType), []), (2, 1, 1, 2), [[(0, .aload_n 0), (1, .iload_n 1), (2, .putfield 24), (5, .aload_n 0), (6, .iconst 0), (7, .putfield 28), (10, .aload_n 0), (11, .iconst 0), (12, .putfield 31), (15, .aload_n 0), (16, .lconst 0), (17, .putfield 35), (20, .return_)]])
def gx_e28 : gx_E := (⟨"CopiedGraphsLaw", "buffer", "(LCopiedGraphs;JI[J)I"⟩, method_4_code, (6, (Option.some Jvm.ClassFile.FieldType.int), [(0, 11, 14, 13), (0, 11, 18, 15)]), (7, 0, 4, 0), [[(0, .aload 4), (2, .iconst 0), (3, .aload_n 0), (4, .lload_n 1), (5, .iload_n 3), (6, .invokevirtual 17), (9, .i2l), (10, .lastore), (11, .goto 11), (14, .astore 5), (16, .iconst 1), (17, .ireturn), (18, .astore 5), (20, .iconst 2), (21, .ireturn), (22, .iconst 0), (23, .ireturn)]])
def gx_e29 : gx_E := (⟨"CopiedGraphs", "buffer", "(JI)I"⟩, prog_1_method_3_code, (5, (Option.some Jvm.ClassFile.FieldType.int), []), (0, 1, 2, 0), [[(0, .iload_n 3), (1, .ifCond .lt 9), (4, .iload_n 3), (5, .bipush 8), (7, .if_icmp .le 13), (10, .new 48), (13, .dup), (14, .ldc 59), (16, .invokespecial 52), (19, .athrow), (20, .aload_n 0), (21, .iconst 4), (22, .invokevirtual 55), (25, .istore 4), (27, .aload_n 0), (28, .getfield 10), (31, .getfield 61), (34, .iload 4), (36, .aaload), (37, .lload_n 1), (38, .iload_n 3), (39, .invokevirtual 65), (42, .iload 4), (44, .ireturn)]])
def gx_e30 : gx_E := (⟨"CopiedGraphs$Thing", "holdBytes", "(JI)V"⟩, prog_6_method_3_code, (4, (Option.none : Option Jvm.ClassFile.FieldType), []), (2, 1, 2, 2), [[(0, .aload_n 0), (1, .lload_n 1), (2, .putfield 35), (5, .aload_n 0), (6, .iload_n 3), (7, .putfield 28), (10, .return_)]])
def gx_e31 : gx_E := (⟨"CopiedGraphsLaw", "view", "(LCopiedGraphs;IIII[J)I"⟩, method_5_code, (7, (Option.some Jvm.ClassFile.FieldType.int), [(0, 14, 17, 13), (0, 14, 21, 15)]), (7, 0, 6, 0), [[(0, .aload 5), (2, .iconst 0), (3, .aload_n 0), (4, .iload_n 1), (5, .iload_n 2), (6, .iload_n 3), (7, .iload 4), (9, .invokevirtual 21), (12, .i2l), (13, .lastore), (14, .goto 11), (17, .astore 6), (19, .iconst 1), (20, .ireturn), (21, .astore 6), (23, .iconst 2), (24, .ireturn), (25, .iconst 0), (26, .ireturn)]])
def gx_e32 : gx_E := (⟨"CopiedGraphs", "view", "(IIII)I"⟩, prog_1_method_4_code, (7, (Option.some Jvm.ClassFile.FieldType.int), []), (0, 1, 4, 0), [[(0, .aload_n 0), (1, .getfield 10), (4, .iload_n 1), (5, .invokevirtual 71), (8, .astore 5), (10, .aload 5), (12, .ifnull 15), (15, .aload 5), (17, .iload_n 2), (18, .iload_n 3), (19, .iload 4), (21, .invokevirtual 75), (24, .ifCond .ne 13), (27, .new 48), (30, .dup), (31, .ldc 79), (33, .invokespecial 52), (36, .athrow), (37, .aload_n 0), (38, .iconst 5), (39, .invokevirtual 55), (42, .istore 6), (44, .aload_n 0), (45, .getfield 10), (48, .getfield 61), (51, .iload 6), (53, .aaload), (54, .iload_n 1), (55, .iload_n 2), (56, .iload_n 3), (57, .iload 4), (59, .invokevirtual 81), (62, .iload 6)], [(64, .ireturn)]])
def gx_e33 : gx_E := (⟨"CopiedGraphs$Thing", "canBeViewed", "(III)Z"⟩, prog_6_method_5_code, (4, (Option.some Jvm.ClassFile.FieldType.boolean), []), (2, 1, 3, 2), [[(0, .aload_n 0), (1, .getfield 24), (4, .iconst 4), (5, .if_icmp .ne 10), (8, .aload_n 0), (9, .getfield 31), (12, .ifCond .eq 5), (15, .iconst 0), (16, .ireturn), (17, .iload_n 1), (18, .iconst 1), (19, .if_icmp .eq 15), (22, .iload_n 1), (23, .iconst 2), (24, .if_icmp .eq 10), (27, .iload_n 1), (28, .iconst 4), (29, .if_icmp .eq 5), (32, .iconst 0), (33, .ireturn), (34, .iload_n 2), (35, .ifCond .lt 13), (38, .iload_n 2), (39, .iload_n 1), (40, .irem), (41, .ifCond .ne 7), (44, .iload_n 3), (45, .ifCond .ge 5), (48, .iconst 0), (49, .ireturn), (50, .iload_n 2), (51, .i2l), (52, .iload_n 1), (53, .i2l), (54, .iload_n 3), (55, .i2l), (56, .lmul), (57, .ladd), (58, .aload_n 0), (59, .getfield 28), (62, .i2l), (63, .lcmp)], [(64, .ifCond .gt 7), (67, .iconst 1), (68, .goto 4), (71, .iconst 0), (72, .ireturn)]])
def gx_e34 : gx_E := (⟨"CopiedGraphs$Thing", "lookAt", "(IIII)V"⟩, prog_6_method_4_code, (5, (Option.none : Option Jvm.ClassFile.FieldType), []), (2, 1, 4, 2), [[(0, .aload_n 0), (1, .iload_n 1), (2, .putfield 39), (5, .aload_n 0), (6, .iload_n 2), (7, .putfield 42), (10, .aload_n 0), (11, .iload_n 3), (12, .putfield 45), (15, .aload_n 0), (16, .iload 4), (18, .putfield 28), (21, .return_)]])
def gx_e35 : gx_E := (⟨"CopiedGraphsLaw", "stamp", "(LCopiedGraphs;J[J)I"⟩, method_6_code, (5, (Option.some Jvm.ClassFile.FieldType.int), [(0, 9, 12, 15)]), (7, 0, 3, 0), [[(0, .aload_n 3), (1, .iconst 0), (2, .aload_n 0), (3, .lload_n 1), (4, .invokevirtual 25), (7, .i2l), (8, .lastore), (9, .goto 7), (12, .astore 4), (14, .iconst 1), (15, .ireturn), (16, .iconst 0), (17, .ireturn)]])
def gx_e36 : gx_E := (⟨"CopiedGraphs", "stamp", "(J)I"⟩, prog_1_method_5_code, (4, (Option.some Jvm.ClassFile.FieldType.int), []), (0, 1, 1, 0), [[(0, .aload_n 0), (1, .bipush 6), (3, .invokevirtual 55), (6, .istore_n 3), (7, .aload_n 0), (8, .getfield 10), (11, .getfield 61), (14, .iload_n 3), (15, .aaload), (16, .lload_n 1), (17, .putfield 85), (20, .iload_n 3), (21, .ireturn)]])
def gx_e37 : gx_E := (⟨"CopiedGraphsLaw", "put", "(LCopiedGraphs;IIII)I"⟩, method_7_code, (6, (Option.some Jvm.ClassFile.FieldType.int), [(0, 9, 12, 13), (0, 9, 16, 15)]), (7, 0, 5, 0), [[(0, .aload_n 0), (1, .iload_n 1), (2, .iload_n 2), (3, .iload_n 3), (4, .iload 4), (6, .invokevirtual 29), (9, .goto 11), (12, .astore 5), (14, .iconst 1), (15, .ireturn), (16, .astore 5), (18, .iconst 2), (19, .ireturn), (20, .iconst 0), (21, .ireturn)]])
def gx_e38 : gx_E := (⟨"CopiedGraphs", "put", "(IIII)V"⟩, prog_1_method_6_code, (6, (Option.none : Option Jvm.ClassFile.FieldType), []), (0, 1, 4, 0), [[(0, .aload_n 0), (1, .getfield 10), (4, .iload_n 1), (5, .invokevirtual 71), (8, .astore 5), (10, .aload 5), (12, .ifnull 16), (15, .aload_n 0), (16, .aload 5), (18, .iload_n 2), (19, .iload_n 3), (20, .iload 4), (22, .invokevirtual 89), (25, .ifCond .ne 13), (28, .new 48), (31, .dup), (32, .ldc 93), (34, .invokespecial 52), (37, .athrow), (38, .aload 5), (40, .getfield 95), (43, .iconst 1), (44, .if_icmp .ne 19), (47, .aload 5), (49, .iload_n 2), (50, .iload_n 3), (51, .iload_n 3), (52, .iload 4), (54, .invokestatic 98), (57, .invokevirtual 102), (60, .goto 29), (63, .aload 5)], [(65, .iload_n 2), (66, .iload_n 3), (67, .iload_n 3), (68, .iload 4), (70, .invokestatic 98), (73, .invokevirtual 106), (76, .ifCond .ne 13), (79, .new 109), (82, .dup), (83, .ldc 111), (85, .invokespecial 113), (88, .athrow), (89, .return_)]])
def gx_e39 : gx_E := (⟨"CopiedGraphs", "canBePut", "(LCopiedGraphs$Thing;III)Z"⟩, prog_1_method_26_code, (5, (Option.some Jvm.ClassFile.FieldType.boolean), []), (0, 1, 4, 0), [[(0, .aload_n 1), (1, .getfield 95), (4, .ifCond .ne 28), (7, .iload_n 3), (8, .bipush 8), (10, .if_icmp .eq 16), (13, .aload_n 0), (14, .getfield 10), (17, .iload_n 3), (18, .iload 4), (20, .invokevirtual 123), (23, .ifCond .eq 7), (26, .iconst 1), (27, .goto 4), (30, .iconst 0), (31, .ireturn), (32, .aload_n 1), (33, .getfield 95), (36, .iconst 1), (37, .if_icmp .ne 30), (40, .iload_n 2), (41, .ifCond .lt 26), (44, .iload_n 2), (45, .bipush 8), (47, .if_icmp .ge 20), (50, .aload_n 0), (51, .getfield 10), (54, .iload_n 3), (55, .iload 4), (57, .invokevirtual 123), (60, .ifCond .eq 7), (63, .iconst 1)], [(64, .goto 4), (67, .iconst 0), (68, .ireturn)]])
def gx_e40 : gx_E := (⟨"CopiedGraphs$Store", "isValue", "(II)Z"⟩, prog_5_method_6_code, (3, (Option.some Jvm.ClassFile.FieldType.boolean), []), (1, 1, 2, 1), [[(0, .iload_n 1), (1, .ifCond .lt 9), (4, .iload_n 1), (5, .bipush 7), (7, .if_icmp .le 5), (10, .iconst 0), (11, .ireturn), (12, .iload_n 1), (13, .iconst 5), (14, .if_icmp .ne 8), (17, .iload_n 2), (18, .invokestatic 41), (21, .ireturn), (22, .iload_n 1), (23, .bipush 6), (25, .if_icmp .ne 15), (28, .iload_n 2), (29, .ifCond .lt 15), (32, .iload_n 2), (33, .aload_n 0), (34, .getfield 18), (37, .if_icmp .ge 7), (40, .iconst 1), (41, .goto 4), (44, .iconst 0), (45, .ireturn)]])
def gx_e41 : gx_E := (⟨"CopiedGraphs$Store", "isText", "(I)Z"⟩, prog_5_method_7_code, (2, (Option.some Jvm.ClassFile.FieldType.boolean), []), (1, 0, 1, 0), [[(0, .iconst 0), (1, .istore_n 1), (2, .iload_n 1), (3, .iconst 1), (4, .iadd), (5, .iconst 4), (6, .if_icmp .ge 31), (9, .iload_n 0), (10, .i2l), (11, .iload_n 1), (12, .invokestatic 44), (15, .ifCond .ne 16), (18, .iload_n 0), (19, .i2l), (20, .iload_n 1), (21, .iconst 1), (22, .iadd), (23, .invokestatic 44), (26, .ifCond .eq 5), (29, .iconst 0), (30, .ireturn), (31, .iinc 1 1), (34, .goto (-32)), (37, .iconst 1), (38, .ireturn)]])
def gx_e42 : gx_E := (⟨"CopiedGraphs", "countedNumber", "(II)I"⟩, prog_1_method_27_code, (2, (Option.some Jvm.ClassFile.FieldType.int), []), (0, 0, 2, 0), [[(0, .iload_n 0), (1, .iconst 3), (2, .if_icmp .gt 7), (5, .iconst 0), (6, .goto 4), (9, .iload_n 1), (10, .ireturn)]])
def gx_e43 : gx_E := (⟨"CopiedGraphs$Thing", "setPlace", "(III)V"⟩, prog_6_method_12_code, (5, (Option.none : Option Jvm.ClassFile.FieldType), []), (2, 1, 3, 2), [[(0, .aload_n 0), (1, .getfield 28), (4, .istore 4), (6, .iload 4), (8, .iload_n 1), (9, .if_icmp .ge 17), (12, .aload_n 0), (13, .iload 4), (15, .iconst (-1)), (16, .iconst 0), (17, .invokevirtual 48), (20, .iinc 4 1), (23, .goto (-17)), (26, .aload_n 0), (27, .iload_n 1), (28, .iload_n 2), (29, .iload_n 3), (30, .invokevirtual 48), (33, .aload_n 0), (34, .aload_n 0), (35, .getfield 28), (38, .iload_n 1), (39, .iconst 1), (40, .iadd), (41, .invokestatic 64), (44, .putfield 28), (47, .return_)]])
def gx_e44 : gx_E := (⟨"CopiedGraphs$Thing", "setValue", "(III)V"⟩, prog_6_method_19_code, (4, (Option.none : Option Jvm.ClassFile.FieldType), []), (2, 1, 3, 2), [[(0, .aload_n 0), (1, .getfield 18), (4, .iload_n 1), (5, .iload_n 2), (6, .iastore), (7, .aload_n 0), (8, .getfield 21), (11, .iload_n 1), (12, .iload_n 3), (13, .iastore), (14, .return_)]])
def gx_e45 : gx_E := (⟨"java/lang/Math", "max", "(II)I"⟩, prog_14_method_65_code, (2, (Option.some Jvm.ClassFile.FieldType.int), []), (8, 0, 2, 0), [[(0, .iload_n 0), (1, .iload_n 1), (2, .if_icmp .lt 7), (5, .iload_n 0), (6, .goto 4), (9, .iload_n 1), (10, .ireturn)]])
def gx_e46 : gx_E := (⟨"CopiedGraphs$Thing", "setProperty", "(III)Z"⟩, prog_6_method_10_code, (5, (Option.some Jvm.ClassFile.FieldType.boolean), []), (2, 1, 3, 2), [[(0, .aload_n 0), (1, .iconst 4), (2, .iload_n 1), (3, .invokevirtual 52), (6, .istore 4), (8, .iload 4), (10, .iconst (-1)), (11, .if_icmp .ne 43), (14, .aload_n 0), (15, .getfield 28), (18, .bipush 6), (20, .if_icmp .lt 5), (23, .iconst 0), (24, .ireturn), (25, .aload_n 0), (26, .iload_n 1), (27, .invokevirtual 56), (30, .istore 4), (32, .aload_n 0), (33, .iload 4), (35, .invokevirtual 60), (38, .aload_n 0), (39, .getfield 9), (42, .iload 4), (44, .iconst 4), (45, .iastore), (46, .aload_n 0), (47, .getfield 15), (50, .iload 4), (52, .iload_n 1), (53, .iastore), (54, .aload_n 0), (55, .iload 4), (57, .iload_n 2), (58, .iload_n 3), (59, .invokevirtual 48), (62, .iconst 1), (63, .ireturn)]])
def gx_e47 : gx_E := (⟨"CopiedGraphs$Thing", "indexOfKey", "(II)I"⟩, prog_6_method_6_code, (4, (Option.some Jvm.ClassFile.FieldType.int), []), (2, 1, 2, 2), [[(0, .iconst 0), (1, .istore_n 3), (2, .iload_n 3), (3, .aload_n 0), (4, .getfield 28), (7, .if_icmp .ge 31), (10, .aload_n 0), (11, .getfield 9), (14, .iload_n 3), (15, .iaload), (16, .iload_n 1), (17, .if_icmp .ne 15), (20, .aload_n 0), (21, .getfield 15), (24, .iload_n 3), (25, .iaload), (26, .iload_n 2), (27, .if_icmp .ne 5), (30, .iload_n 3), (31, .ireturn), (32, .iinc 3 1), (35, .goto (-33)), (38, .iconst (-1)), (39, .ireturn)]])
def gx_e48 : gx_E := (⟨"CopiedGraphs$Thing", "orderedPlace", "(I)I"⟩, prog_6_method_20_code, (3, (Option.some Jvm.ClassFile.FieldType.int), []), (2, 1, 1, 2), [[(0, .iload_n 1), (1, .ifCond .ge 8), (4, .aload_n 0), (5, .getfield 28), (8, .ireturn), (9, .iconst 0), (10, .istore_n 2), (11, .iload_n 2), (12, .aload_n 0), (13, .getfield 28), (16, .if_icmp .ge 28), (19, .aload_n 0), (20, .getfield 15), (23, .iload_n 2), (24, .iaload), (25, .ifCond .lt 19), (28, .aload_n 0), (29, .getfield 15), (32, .iload_n 2), (33, .iaload), (34, .iload_n 1), (35, .if_icmp .ge 9), (38, .iinc 2 1), (41, .goto (-30)), (44, .iload_n 2), (45, .ireturn)]])
def gx_e49 : gx_E := (⟨"CopiedGraphs$Thing", "openGap", "(I)V"⟩, prog_6_method_21_code, (3, (Option.none : Option Jvm.ClassFile.FieldType), []), (2, 1, 1, 2), [[(0, .aload_n 0), (1, .getfield 28), (4, .istore_n 2), (5, .iload_n 2), (6, .iload_n 1), (7, .if_icmp .le 58), (10, .aload_n 0), (11, .getfield 9), (14, .iload_n 2), (15, .aload_n 0), (16, .getfield 9), (19, .iload_n 2), (20, .iconst 1), (21, .isub), (22, .iaload), (23, .iastore), (24, .aload_n 0), (25, .getfield 15), (28, .iload_n 2), (29, .aload_n 0), (30, .getfield 15), (33, .iload_n 2), (34, .iconst 1), (35, .isub), (36, .iaload), (37, .iastore), (38, .aload_n 0), (39, .iload_n 2), (40, .aload_n 0), (41, .getfield 18), (44, .iload_n 2), (45, .iconst 1), (46, .isub), (47, .iaload), (48, .aload_n 0), (49, .getfield 21), (52, .iload_n 2), (53, .iconst 1), (54, .isub), (55, .iaload), (56, .invokevirtual 48), (59, .iinc 2 (-1)), (62, .goto (-57))], [(65, .aload_n 0), (66, .dup), (67, .getfield 28), (70, .iconst 1), (71, .iadd), (72, .putfield 28), (75, .return_)]])
def gx_e50 : gx_E := (⟨"CopiedGraphsLaw", "take", "(LCopiedGraphs;II[J)I"⟩, method_8_code, (5, (Option.some Jvm.ClassFile.FieldType.int), [(0, 17, 20, 13)]), (7, 0, 4, 0), [[(0, .aload_n 3), (1, .iconst 0), (2, .aload_n 0), (3, .iload_n 1), (4, .iload_n 2), (5, .invokevirtual 33), (8, .ifCond .eq 7), (11, .lconst 1), (12, .goto 4), (15, .lconst 0), (16, .lastore), (17, .goto 7), (20, .astore 4), (22, .iconst 1), (23, .ireturn), (24, .iconst 0), (25, .ireturn)]])
def gx_e51 : gx_E := (⟨"CopiedGraphs", "take", "(II)Z"⟩, prog_1_method_7_code, (4, (Option.some Jvm.ClassFile.FieldType.boolean), []), (0, 1, 2, 0), [[(0, .aload_n 0), (1, .getfield 10), (4, .iload_n 1), (5, .invokevirtual 71), (8, .astore_n 3), (9, .aload_n 3), (10, .ifnull 18), (13, .aload_n 3), (14, .getfield 95), (17, .ifCond .eq 21), (20, .aload_n 3), (21, .getfield 95), (24, .iconst 1), (25, .if_icmp .eq 13), (28, .new 48), (31, .dup), (32, .ldc 114), (34, .invokespecial 52), (37, .athrow), (38, .aload_n 3), (39, .getfield 95), (42, .ifCond .ne 11), (45, .aload_n 3), (46, .iload_n 2), (47, .invokevirtual 116), (50, .goto 8), (53, .aload_n 3), (54, .iload_n 2), (55, .invokevirtual 120), (58, .ireturn)]])
def gx_e52 : gx_E := (⟨"CopiedGraphs$Thing", "dropProperty", "(I)Z"⟩, prog_6_method_11_code, (4, (Option.some Jvm.ClassFile.FieldType.boolean), []), (2, 1, 1, 2), [[(0, .aload_n 0), (1, .iconst 4), (2, .iload_n 1), (3, .invokevirtual 52), (6, .istore_n 2), (7, .iload_n 2), (8, .iconst (-1)), (9, .if_icmp .ne 5), (12, .iconst 0), (13, .ireturn), (14, .iload_n 2), (15, .istore_n 3), (16, .iload_n 3), (17, .iconst 1), (18, .iadd), (19, .aload_n 0), (20, .getfield 28), (23, .if_icmp .ge 44), (26, .aload_n 0), (27, .getfield 15), (30, .iload_n 3), (31, .aload_n 0), (32, .getfield 15), (35, .iload_n 3), (36, .iconst 1), (37, .iadd), (38, .iaload), (39, .iastore), (40, .aload_n 0), (41, .iload_n 3), (42, .aload_n 0), (43, .getfield 18), (46, .iload_n 3), (47, .iconst 1), (48, .iadd), (49, .iaload), (50, .aload_n 0), (51, .getfield 21), (54, .iload_n 3), (55, .iconst 1), (56, .iadd), (57, .iaload), (58, .invokevirtual 48), (61, .iinc 3 1)], [(64, .goto (-48)), (67, .aload_n 0), (68, .dup), (69, .getfield 28), (72, .iconst 1), (73, .isub), (74, .putfield 28), (77, .iconst 1), (78, .ireturn)]])
def gx_e53 : gx_E := (⟨"CopiedGraphs$Thing", "makeHole", "(I)Z"⟩, prog_6_method_13_code, (2, (Option.some Jvm.ClassFile.FieldType.boolean), []), (2, 1, 1, 2), [[(0, .iload_n 1), (1, .ifCond .lt 11), (4, .iload_n 1), (5, .aload_n 0), (6, .getfield 28), (9, .if_icmp .lt 5), (12, .iconst 0), (13, .ireturn), (14, .aload_n 0), (15, .iload_n 1), (16, .iconst (-1)), (17, .iconst 0), (18, .invokevirtual 48), (21, .iconst 1), (22, .ireturn)]])
def gx_e54 : gx_E := (⟨"CopiedGraphsLaw", "entry", "(LCopiedGraphs;IIIII)I"⟩, method_9_code, (7, (Option.some Jvm.ClassFile.FieldType.int), [(0, 11, 14, 13), (0, 11, 18, 15)]), (7, 0, 6, 0), [[(0, .aload_n 0), (1, .iload_n 1), (2, .iload_n 2), (3, .iload_n 3), (4, .iload 4), (6, .iload 5), (8, .invokevirtual 37), (11, .goto 11), (14, .astore 6), (16, .iconst 1), (17, .ireturn), (18, .astore 6), (20, .iconst 2), (21, .ireturn), (22, .iconst 0), (23, .ireturn)]])
def gx_e55 : gx_E := (⟨"CopiedGraphs", "entry", "(IIIII)V"⟩, prog_1_method_8_code, (8, (Option.none : Option Jvm.ClassFile.FieldType), []), (0, 1, 5, 0), [[(0, .aload_n 0), (1, .getfield 10), (4, .iload_n 1), (5, .invokevirtual 71), (8, .astore 6), (10, .aload 6), (12, .ifnull 38), (15, .aload 6), (17, .getfield 95), (20, .iconst 2), (21, .if_icmp .ne 29), (24, .aload_n 0), (25, .getfield 10), (28, .iload_n 2), (29, .iload_n 3), (30, .invokevirtual 123), (33, .ifCond .eq 17), (36, .aload_n 0), (37, .getfield 10), (40, .iload 4), (42, .iload 5), (44, .invokevirtual 123), (47, .ifCond .ne 13), (50, .new 48), (53, .dup), (54, .ldc 127), (56, .invokespecial 52), (59, .athrow), (60, .iload_n 2), (61, .iload_n 3), (62, .invokestatic 98)], [(65, .istore 7), (67, .aload 6), (69, .iload_n 2), (70, .iload 7), (72, .iload 4), (74, .iload 4), (76, .iload 5), (78, .invokestatic 98), (81, .invokevirtual 129), (84, .ifCond .ne 13), (87, .new 109), (90, .dup), (91, .ldc 133), (93, .invokespecial 113), (96, .athrow), (97, .return_)]])
def gx_e56 : gx_E := (⟨"CopiedGraphs$Thing", "setEntry", "(IIII)Z"⟩, prog_6_method_9_code, (6, (Option.some Jvm.ClassFile.FieldType.boolean), []), (2, 1, 4, 2), [[(0, .aload_n 0), (1, .iload_n 1), (2, .iload_n 2), (3, .invokevirtual 52), (6, .istore 5), (8, .iload 5), (10, .iconst (-1)), (11, .if_icmp .ne 45), (14, .aload_n 0), (15, .getfield 28), (18, .iconst 4), (19, .if_icmp .lt 5), (22, .iconst 0), (23, .ireturn), (24, .aload_n 0), (25, .getfield 28), (28, .istore 5), (30, .aload_n 0), (31, .getfield 9), (34, .iload 5), (36, .iload_n 1), (37, .iastore), (38, .aload_n 0), (39, .getfield 15), (42, .iload 5), (44, .iload_n 2), (45, .iastore), (46, .aload_n 0), (47, .dup), (48, .getfield 28), (51, .iconst 1), (52, .iadd), (53, .putfield 28), (56, .aload_n 0), (57, .iload 5), (59, .iload_n 3), (60, .iload 4), (62, .invokevirtual 48)], [(65, .iconst 1), (66, .ireturn)]])
def gx_e57 : gx_E := (⟨"CopiedGraphsLaw", "add", "(LCopiedGraphs;III[J)I"⟩, method_10_code, (6, (Option.some Jvm.ClassFile.FieldType.int), [(0, 19, 22, 13), (0, 19, 26, 15)]), (7, 0, 5, 0), [[(0, .aload 4), (2, .iconst 0), (3, .aload_n 0), (4, .iload_n 1), (5, .iload_n 2), (6, .iload_n 3), (7, .invokevirtual 41), (10, .ifCond .eq 7), (13, .lconst 1), (14, .goto 4), (17, .lconst 0), (18, .lastore), (19, .goto 11), (22, .astore 5), (24, .iconst 1), (25, .ireturn), (26, .astore 5), (28, .iconst 2), (29, .ireturn), (30, .iconst 0), (31, .ireturn)]])
def gx_e58 : gx_E := (⟨"CopiedGraphs", "add", "(III)Z"⟩, prog_1_method_9_code, (6, (Option.some Jvm.ClassFile.FieldType.boolean), []), (0, 1, 3, 0), [[(0, .aload_n 0), (1, .getfield 10), (4, .iload_n 1), (5, .invokevirtual 71), (8, .astore 4), (10, .aload 4), (12, .ifnull 24), (15, .aload 4), (17, .getfield 95), (20, .iconst 3), (21, .if_icmp .ne 15), (24, .aload_n 0), (25, .getfield 10), (28, .iload_n 2), (29, .iload_n 3), (30, .invokevirtual 123), (33, .ifCond .ne 13), (36, .new 48), (39, .dup), (40, .ldc 135), (42, .invokespecial 52), (45, .athrow), (46, .iload_n 2), (47, .iload_n 3), (48, .invokestatic 98), (51, .istore 5), (53, .aload 4), (55, .iload_n 2), (56, .iload 5), (58, .invokevirtual 137), (61, .ifCond .eq 5)], [(64, .iconst 0), (65, .ireturn), (66, .aload 4), (68, .iload_n 2), (69, .iload 5), (71, .invokevirtual 140), (74, .ifCond .ne 13), (77, .new 109), (80, .dup), (81, .ldc 143), (83, .invokespecial 113), (86, .athrow), (87, .iconst 1), (88, .ireturn)]])
def gx_e59 : gx_E := (⟨"CopiedGraphs$Thing", "hasMember", "(II)Z"⟩, prog_6_method_7_code, (4, (Option.some Jvm.ClassFile.FieldType.boolean), []), (2, 1, 2, 2), [[(0, .iconst 0), (1, .istore_n 3), (2, .iload_n 3), (3, .aload_n 0), (4, .getfield 28), (7, .if_icmp .ge 31), (10, .aload_n 0), (11, .getfield 18), (14, .iload_n 3), (15, .iaload), (16, .iload_n 1), (17, .if_icmp .ne 15), (20, .aload_n 0), (21, .getfield 21), (24, .iload_n 3), (25, .iaload), (26, .iload_n 2), (27, .if_icmp .ne 5), (30, .iconst 1), (31, .ireturn), (32, .iinc 3 1), (35, .goto (-33)), (38, .iconst 0), (39, .ireturn)]])
def gx_e60 : gx_E := (⟨"CopiedGraphs$Thing", "appendMember", "(II)Z"⟩, prog_6_method_8_code, (3, (Option.some Jvm.ClassFile.FieldType.boolean), []), (2, 1, 2, 2), [[(0, .aload_n 0), (1, .getfield 28), (4, .iconst 5), (5, .if_icmp .lt 5), (8, .iconst 0), (9, .ireturn), (10, .aload_n 0), (11, .aload_n 0), (12, .getfield 28), (15, .iload_n 1), (16, .iload_n 2), (17, .invokevirtual 48), (20, .aload_n 0), (21, .dup), (22, .getfield 28), (25, .iconst 1), (26, .iadd), (27, .putfield 28), (30, .iconst 1), (31, .ireturn)]])
def gx_e61 : gx_E := (⟨"CopiedGraphsLaw", "get", "(LCopiedGraphs;III[J)I"⟩, method_11_code, (6, (Option.some Jvm.ClassFile.FieldType.int), [(0, 11, 14, 49)]), (7, 0, 5, 0), [[(0, .aload 4), (2, .iconst 0), (3, .aload_n 0), (4, .iload_n 1), (5, .iload_n 2), (6, .iload_n 3), (7, .invokevirtual 45), (10, .lastore), (11, .goto 7), (14, .astore 5), (16, .iconst 1), (17, .ireturn), (18, .iconst 0), (19, .ireturn)]])
def gx_e62 : gx_E := (⟨"CopiedGraphs", "get", "(III)J"⟩, prog_1_method_15_code, (5, (Option.some Jvm.ClassFile.FieldType.long), []), (0, 1, 3, 0), [[(0, .aload_n 0), (1, .getfield 10), (4, .iload_n 1), (5, .invokevirtual 71), (8, .astore 4), (10, .aload 4), (12, .ifnull 13), (15, .aload 4), (17, .iload_n 2), (18, .iload_n 3), (19, .invokevirtual 162), (22, .ifCond .ne 13), (25, .new 165), (28, .dup), (29, .ldc 167), (31, .invokespecial 169), (34, .athrow), (35, .aload 4), (37, .iload_n 2), (38, .iload_n 3), (39, .invokevirtual 170), (42, .lreturn)]])
def gx_e63 : gx_E := (⟨"CopiedGraphs$Thing", "hasPart", "(II)Z"⟩, prog_6_method_14_code, (3, (Option.some Jvm.ClassFile.FieldType.boolean), []), (2, 1, 2, 2), [[(0, .iload_n 2), (1, .ifCond .lt 12), (4, .iload_n 2), (5, .iconst 3), (6, .if_icmp .gt 7), (9, .iload_n 1), (10, .ifCond .ge 5), (13, .iconst 0), (14, .ireturn), (15, .aload_n 0), (16, .getfield 24), (19, .iconst 5), (20, .if_icmp .ne 13), (23, .iload_n 1), (24, .ifCond .ne 7), (27, .iconst 1), (28, .goto 4), (31, .iconst 0), (32, .ireturn), (33, .aload_n 0), (34, .getfield 24), (37, .bipush 6), (39, .if_icmp .ne 17), (42, .iload_n 1), (43, .ifCond .ne 11), (46, .iload_n 2), (47, .ifCond .ne 7), (50, .iconst 1), (51, .goto 4), (54, .iconst 0), (55, .ireturn), (56, .aload_n 0), (57, .getfield 31), (60, .ifCond .ne 28), (63, .iload_n 1)], [(64, .aload_n 0), (65, .getfield 28), (68, .if_icmp .ge 20), (71, .iload_n 2), (72, .iconst 3), (73, .if_icmp .lt 11), (76, .aload_n 0), (77, .getfield 24), (80, .iconst 2), (81, .if_icmp .ne 7), (84, .iconst 1), (85, .goto 4), (88, .iconst 0), (89, .ireturn)]])
def gx_e64 : gx_E := (⟨"CopiedGraphs$Thing", "part", "(II)J"⟩, prog_6_method_15_code, (3, (Option.some Jvm.ClassFile.FieldType.long), []), (2, 1, 2, 2), [[(0, .aload_n 0), (1, .getfield 24), (4, .tableswitch 46 4 6 #[39, 28, 34]), (32, .aload_n 0), (33, .iload_n 2), (34, .invokevirtual 69), (37, .lreturn), (38, .aload_n 0), (39, .getfield 35), (42, .lreturn), (43, .aload_n 0), (44, .iload_n 1), (45, .iload_n 2), (46, .invokevirtual 73), (49, .lreturn), (50, .aload_n 0), (51, .iload_n 1), (52, .iload_n 2), (53, .invokevirtual 77), (56, .lreturn)]])
def gx_e65 : gx_E := (⟨"CopiedGraphs$Thing", "viewPart", "(I)J"⟩, prog_6_method_16_code, (2, (Option.some Jvm.ClassFile.FieldType.long), []), (2, 1, 1, 2), [[(0, .iload_n 1), (1, .tableswitch 45 0 2 #[27, 33, 39]), (28, .aload_n 0), (29, .getfield 39), (32, .i2l), (33, .lreturn), (34, .aload_n 0), (35, .getfield 42), (38, .i2l), (39, .lreturn), (40, .aload_n 0), (41, .getfield 45), (44, .i2l), (45, .lreturn), (46, .aload_n 0), (47, .getfield 28), (50, .i2l), (51, .lreturn)]])
def gx_e66 : gx_E := (⟨"CopiedGraphs$Thing", "bytePart", "(II)J"⟩, prog_6_method_17_code, (3, (Option.some Jvm.ClassFile.FieldType.long), []), (2, 1, 2, 2), [[(0, .iload_n 2), (1, .ifCond .ne 6), (4, .iload_n 1), (5, .i2l), (6, .lreturn), (7, .iload_n 2), (8, .iconst 1), (9, .if_icmp .ne 9), (12, .ldc2_w 80), (15, .goto 12), (18, .aload_n 0), (19, .getfield 35), (22, .iload_n 1), (23, .invokestatic 82), (26, .i2l), (27, .lreturn)]])
def gx_e67 : gx_E := (⟨"CopiedGraphs$Thing", "valuePart", "(II)J"⟩, prog_6_method_18_code, (3, (Option.some Jvm.ClassFile.FieldType.long), []), (2, 1, 2, 2), [[(0, .iload_n 2), (1, .tableswitch 71 0 2 #[27, 55, 63]), (28, .aload_n 0), (29, .getfield 24), (32, .ifCond .eq 11), (35, .aload_n 0), (36, .getfield 24), (39, .iconst 2), (40, .if_icmp .ne 13), (43, .aload_n 0), (44, .getfield 15), (47, .iload_n 1), (48, .iaload), (49, .i2l), (50, .goto 5), (53, .iload_n 1), (54, .i2l), (55, .lreturn), (56, .aload_n 0), (57, .getfield 18), (60, .iload_n 1), (61, .iaload), (62, .i2l), (63, .lreturn)], [(64, .aload_n 0), (65, .getfield 21), (68, .iload_n 1), (69, .iaload), (70, .i2l), (71, .lreturn), (72, .aload_n 0), (73, .getfield 9), (76, .iload_n 1), (77, .iaload), (78, .i2l), (79, .lreturn)]])
def gx_e68 : gx_E := (⟨"CopiedGraphsLaw", "pass", "(LCopiedGraphs;I[J)I"⟩, method_12_code, (4, (Option.some Jvm.ClassFile.FieldType.int), [(0, 9, 12, 13), (0, 9, 15, 15)]), (7, 0, 3, 0), [[(0, .aload_n 2), (1, .iconst 0), (2, .aload_n 0), (3, .iload_n 1), (4, .invokevirtual 51), (7, .i2l), (8, .lastore), (9, .goto 9), (12, .astore_n 3), (13, .iconst 1), (14, .ireturn), (15, .astore_n 3), (16, .iconst 2), (17, .ireturn), (18, .iconst 0), (19, .ireturn)]])
def gx_e69 : gx_E := (⟨"CopiedGraphs", "pass", "(I)I"⟩, prog_1_method_16_code, (2, (Option.some Jvm.ClassFile.FieldType.int), []), (0, 1, 1, 0), [[(0, .aload_n 0), (1, .getfield 10), (4, .iload_n 1), (5, .invokevirtual 71), (8, .ifnonnull 13), (11, .new 48), (14, .dup), (15, .ldc 174), (17, .invokespecial 52), (20, .athrow), (21, .aload_n 0), (22, .getfield 26), (25, .iload_n 1), (26, .invokevirtual 176), (29, .ifCond .ne 13), (32, .new 109), (35, .dup), (36, .ldc 179), (38, .invokespecial 113), (41, .athrow), (42, .aload_n 0), (43, .getfield 26), (46, .getfield 151), (49, .ireturn)]])
def gx_e70 : gx_E := (⟨"CopiedGraphs$Handover", "appendPassed", "(I)Z"⟩, prog_3_method_2_code, (2, (Option.some Jvm.ClassFile.FieldType.boolean), []), (4, 1, 1, 4), [[(0, .aload_n 0), (1, .getfield 22), (4, .iconst 4), (5, .if_icmp .lt 5), (8, .iconst 0), (9, .ireturn), (10, .aload_n 0), (11, .getfield 9), (14, .aload_n 0), (15, .getfield 22), (18, .iload_n 1), (19, .iastore), (20, .aload_n 0), (21, .dup), (22, .getfield 22), (25, .iconst 1), (26, .iadd), (27, .putfield 22), (30, .iconst 1), (31, .ireturn)]])
def gx_e71 : gx_E := (⟨"CopiedGraphsLaw", "write", "(LCopiedGraphs;II[J)I"⟩, method_13_code, (5, (Option.some Jvm.ClassFile.FieldType.int), [(0, 10, 13, 13), (0, 10, 17, 58)]), (7, 0, 4, 0), [[(0, .aload_n 3), (1, .iconst 0), (2, .aload_n 0), (3, .iload_n 1), (4, .iload_n 2), (5, .invokevirtual 54), (8, .i2l), (9, .lastore), (10, .goto 11), (13, .astore 4), (15, .iconst 1), (16, .ireturn), (17, .astore 4), (19, .iconst 2), (20, .ireturn), (21, .iconst 0), (22, .ireturn)]])
def gx_e72 : gx_E := (⟨"CopiedGraphs", "write", "(II)I"⟩, prog_1_method_18_code, (4, (Option.some Jvm.ClassFile.FieldType.int), []), (0, 1, 2, 0), [[(0, .aload_n 0), (1, .getfield 33), (4, .aload_n 0), (5, .getfield 10), (8, .aload_n 0), (9, .getfield 26), (12, .iload_n 1), (13, .iload_n 2), (14, .invokevirtual 181), (17, .istore_n 3), (18, .iload_n 3), (19, .ifCond .ne 28), (22, .aload_n 0), (23, .getfield 26), (26, .aload_n 0), (27, .getfield 10), (30, .invokevirtual 185), (33, .aload_n 0), (34, .getfield 19), (37, .aload_n 0), (38, .getfield 33), (41, .getfield 189), (44, .invokevirtual 192), (47, .aload_n 0), (48, .getfield 26), (51, .iconst 0), (52, .putfield 151), (55, .iload_n 3), (56, .iconst 1), (57, .if_icmp .ne 13), (60, .new 48), (63, .dup)], [(64, .ldc 196), (66, .invokespecial 52), (69, .athrow), (70, .iload_n 3), (71, .iconst 2), (72, .if_icmp .ne 13), (75, .new 198), (78, .dup), (79, .ldc 200), (81, .invokespecial 202), (84, .athrow), (85, .aload_n 0), (86, .getfield 19), (89, .getfield 203), (92, .ireturn)]])
def gx_e73 : gx_E := (⟨"CopiedGraphs$Writer", "run", "(LCopiedGraphs$Store;LCopiedGraphs$Handover;II)I"⟩, prog_7_method_2_code, (6, (Option.some Jvm.ClassFile.FieldType.int), []), (5, 1, 4, 5), [[(0, .aload_n 0), (1, .getfield 12), (4, .iconst 0), (5, .putfield 27), (8, .aload_n 0), (9, .iconst 0), (10, .putfield 31), (13, .iconst 0), (14, .istore 5), (16, .iload 5), (18, .bipush 32), (20, .if_icmp .ge 17), (23, .aload_n 0), (24, .getfield 18), (27, .iload 5), (29, .iconst (-1)), (30, .iastore), (31, .iinc 5 1), (34, .goto (-18)), (37, .aload_n 1), (38, .iload_n 3), (39, .iload 4), (41, .invokevirtual 34), (44, .ifCond .eq 22), (47, .aload_n 2), (48, .aload_n 1), (49, .invokevirtual 40), (52, .ifCond .eq 14), (55, .aload_n 2), (56, .invokevirtual 46), (59, .ifCond .eq 7), (62, .iconst 1), (63, .goto 4)], [(66, .iconst 0), (67, .istore 5), (69, .aload_n 0), (70, .iload 5), (72, .ifCond .eq 7), (75, .iconst 0), (76, .goto 4), (79, .iconst 1), (80, .putfield 50), (83, .aload_n 0), (84, .bipush 15), (86, .invokevirtual 53), (89, .aload_n 0), (90, .aload_n 1), (91, .aload_n 2), (92, .iload_n 3), (93, .iload 4), (95, .iconst 1), (96, .invokevirtual 57), (99, .aload_n 0), (100, .getfield 50), (103, .ifCond .ne 16), (106, .aload_n 2), (107, .aload_n 1), (108, .invokevirtual 40), (111, .ifCond .ne 8), (114, .aload_n 0), (115, .iconst 1), (116, .putfield 50), (119, .aload_n 0), (120, .getfield 50), (123, .ireturn)]])
def gx_e74 : gx_E := (⟨"CopiedGraphs$Handover", "areFreeBuffers", "(LCopiedGraphs$Store;)Z"⟩, prog_3_method_3_code, (3, (Option.some Jvm.ClassFile.FieldType.boolean), []), (4, 1, 1, 4), [[(0, .iconst 0), (1, .istore_n 2), (2, .iload_n 2), (3, .aload_n 0), (4, .getfield 22), (7, .if_icmp .ge 24), (10, .aload_n 1), (11, .aload_n 0), (12, .getfield 9), (15, .iload_n 2), (16, .iaload), (17, .invokevirtual 26), (20, .ifCond .ne 5), (23, .iconst 0), (24, .ireturn), (25, .iinc 2 1), (28, .goto (-26)), (31, .iconst 1), (32, .ireturn)]])
def gx_e75 : gx_E := (⟨"CopiedGraphs$Handover", "noneTwice", "()Z"⟩, prog_3_method_4_code, (2, (Option.some Jvm.ClassFile.FieldType.boolean), []), (4, 1, 0, 4), [[(0, .iconst 0), (1, .istore_n 1), (2, .iload_n 1), (3, .aload_n 0), (4, .getfield 22), (7, .if_icmp .ge 25), (10, .aload_n 0), (11, .aload_n 0), (12, .getfield 9), (15, .iload_n 1), (16, .iaload), (17, .invokevirtual 32), (20, .iload_n 1), (21, .if_icmp .eq 5), (24, .iconst 0), (25, .ireturn), (26, .iinc 1 1), (29, .goto (-27)), (32, .iconst 1), (33, .ireturn)]])
def gx_e76 : gx_E := (⟨"CopiedGraphs$Handover", "placeOf", "(I)I"⟩, prog_3_method_5_code, (3, (Option.some Jvm.ClassFile.FieldType.int), []), (4, 1, 1, 4), [[(0, .iconst 0), (1, .istore_n 2), (2, .iload_n 2), (3, .aload_n 0), (4, .getfield 22), (7, .if_icmp .ge 21), (10, .aload_n 0), (11, .getfield 9), (14, .iload_n 2), (15, .iaload), (16, .iload_n 1), (17, .if_icmp .ne 5), (20, .iload_n 2), (21, .ireturn), (22, .iinc 2 1), (25, .goto (-23)), (28, .iconst (-1)), (29, .ireturn)]])
def gx_e77 : gx_E := (⟨"CopiedGraphs$Writer", "writeByte", "(I)V"⟩, prog_7_method_3_code, (2, (Option.none : Option Jvm.ClassFile.FieldType), []), (5, 1, 1, 5), [[(0, .aload_n 0), (1, .getfield 50), (4, .ifCond .ne 19), (7, .aload_n 0), (8, .getfield 12), (11, .iload_n 1), (12, .invokevirtual 61), (15, .ifCond .ne 8), (18, .aload_n 0), (19, .iconst 1), (20, .putfield 50), (23, .return_)]])
def gx_e78 : gx_E := (⟨"CopiedGraphs$Writer", "writeValue", "(LCopiedGraphs$Store;LCopiedGraphs$Handover;III)V"⟩, prog_7_method_7_code, (6, (Option.none : Option Jvm.ClassFile.FieldType), []), (5, 1, 5, 5), [[(0, .aload_n 0), (1, .getfield 50), (4, .ifCond .eq 4), (7, .return_), (8, .iload 5), (10, .bipush 12), (12, .if_icmp .gt 9), (15, .iload_n 3), (16, .bipush 7), (18, .if_icmp .ne 9), (21, .aload_n 0), (22, .iconst 1), (23, .putfield 50), (26, .return_), (27, .iload_n 3), (28, .bipush 6), (30, .if_icmp .ne 14), (33, .aload_n 0), (34, .aload_n 1), (35, .aload_n 2), (36, .iload 4), (38, .iload 5), (40, .invokevirtual 75), (43, .return_), (44, .aload_n 0), (45, .iload_n 3), (46, .invokevirtual 53), (49, .iload_n 3), (50, .iconst 4), (51, .if_icmp .ne 13), (54, .aload_n 0), (55, .iload 4), (57, .i2l), (58, .invokevirtual 79), (61, .goto 20)], [(64, .iload_n 3), (65, .iconst 5), (66, .if_icmp .ne 15), (69, .aload_n 0), (70, .iload 4), (72, .i2l), (73, .iload 4), (75, .invokestatic 82), (78, .invokevirtual 86), (81, .return_)]])
def gx_e79 : gx_E := (⟨"CopiedGraphs$Writer", "writeObject", "(LCopiedGraphs$Store;LCopiedGraphs$Handover;II)V"⟩, prog_7_method_9_code, (6, (Option.none : Option Jvm.ClassFile.FieldType), []), (5, 1, 4, 5), [[(0, .aload_n 1), (1, .iload_n 3), (2, .invokevirtual 90), (5, .astore 5), (7, .aload 5), (9, .ifnonnull 11), (12, .aload_n 0), (13, .iconst 1), (14, .putfield 50), (17, .goto 129), (20, .aload_n 0), (21, .getfield 18), (24, .iload_n 3), (25, .iaload), (26, .iconst (-1)), (27, .if_icmp .eq 23), (30, .aload_n 0), (31, .bipush 6), (33, .invokevirtual 53), (36, .aload_n 0), (37, .aload_n 0), (38, .getfield 18), (41, .iload_n 3), (42, .iaload), (43, .i2l), (44, .invokevirtual 67), (47, .goto 99), (50, .aload_n 2), (51, .iload_n 3), (52, .invokevirtual 94), (55, .iconst (-1)), (56, .if_icmp .eq 22), (59, .aload_n 0), (60, .bipush 7), (62, .invokevirtual 53)], [(65, .aload_n 0), (66, .aload_n 2), (67, .iload_n 3), (68, .invokevirtual 94), (71, .i2l), (72, .invokevirtual 67), (75, .goto 71), (78, .aload 5), (80, .getfield 97), (83, .bipush 7), (85, .if_icmp .eq 11), (88, .aload 5), (90, .getfield 102), (93, .ifCond .eq 11), (96, .aload_n 0), (97, .iconst 1), (98, .putfield 50), (101, .goto 45), (104, .aload 5), (106, .getfield 97), (109, .iconst 5), (110, .if_icmp .ne 21), (113, .aload_n 0), (114, .aload_n 1), (115, .aload_n 2), (116, .aload 5), (118, .iload 4), (120, .invokevirtual 106), (123, .aload_n 0), (124, .iload_n 3), (125, .invokevirtual 110)], [(128, .goto 18), (131, .aload_n 0), (132, .iload_n 3), (133, .invokevirtual 110), (136, .aload_n 0), (137, .aload_n 1), (138, .aload_n 2), (139, .aload 5), (141, .iload 4), (143, .invokevirtual 113), (146, .return_)]])
def gx_e80 : gx_E := (⟨"CopiedGraphs$Writer", "writeLengthy", "(J)V"⟩, prog_7_method_4_code, (6, (Option.none : Option Jvm.ClassFile.FieldType), []), (5, 1, 1, 5), [[(0, .lload_n 1), (1, .lstore_n 3), (2, .iconst 1), (3, .istore 5), (5, .iload 5), (7, .bipush 10), (9, .if_icmp .ge 37), (12, .lload_n 3), (13, .bipush 7), (15, .lushr), (16, .lconst 0), (17, .lcmp), (18, .ifCond .eq 28), (21, .aload_n 0), (22, .lload_n 3), (23, .ldc2_w 65), (26, .land), (27, .l2i), (28, .sipush 128), (31, .iadd), (32, .invokevirtual 53), (35, .lload_n 3), (36, .bipush 7), (38, .lushr), (39, .lstore_n 3), (40, .iinc 5 1), (43, .goto (-38)), (46, .aload_n 0), (47, .lload_n 3), (48, .l2i), (49, .invokevirtual 53), (52, .return_)]])
def gx_e81 : gx_E := (⟨"CopiedGraphs$Writer", "writeView", "(LCopiedGraphs$Store;LCopiedGraphs$Handover;LCopiedGraphs$Thing;I)V"⟩, prog_7_method_11_code, (5, (Option.none : Option Jvm.ClassFile.FieldType), []), (5, 1, 4, 5), [[(0, .aload_n 0), (1, .bipush 13), (3, .invokevirtual 53), (6, .aload_n 0), (7, .aload_n 3), (8, .getfield 116), (11, .invokevirtual 53), (14, .aload_n 0), (15, .aload_n 3), (16, .getfield 119), (19, .invokevirtual 53), (22, .aload_n 0), (23, .aload_n 3), (24, .getfield 122), (27, .invokevirtual 53), (30, .aload_n 0), (31, .aload_n 1), (32, .aload_n 2), (33, .bipush 6), (35, .aload_n 3), (36, .getfield 123), (39, .iload 4), (41, .iconst 1), (42, .iadd), (43, .invokevirtual 57), (46, .return_)]])
def gx_e82 : gx_E := (⟨"CopiedGraphs$Writer", "givePlace", "(I)V"⟩, prog_7_method_10_code, (2, (Option.none : Option Jvm.ClassFile.FieldType), []), (5, 1, 1, 5), [[(0, .aload_n 0), (1, .getfield 18), (4, .iload_n 1), (5, .aload_n 0), (6, .getfield 31), (9, .iastore), (10, .aload_n 0), (11, .dup), (12, .getfield 31), (15, .iconst 1), (16, .iadd), (17, .putfield 31), (20, .return_)]])
def gx_e83 : gx_E := (⟨"CopiedGraphs$Writer", "writeParts", "(LCopiedGraphs$Store;LCopiedGraphs$Handover;LCopiedGraphs$Thing;I)V"⟩, prog_7_method_12_code, (5, (Option.none : Option Jvm.ClassFile.FieldType), []), (5, 1, 4, 5), [[(0, .aload_n 0), (1, .bipush 8), (3, .aload_n 3), (4, .getfield 97), (7, .iadd), (8, .invokevirtual 53), (11, .aload_n 3), (12, .getfield 97), (15, .tableswitch 96 0 4 #[33, 45, 57, 69, 81]), (48, .aload_n 0), (49, .aload_n 1), (50, .aload_n 2), (51, .aload_n 3), (52, .iload 4), (54, .invokevirtual 126), (57, .goto 62), (60, .aload_n 0), (61, .aload_n 1), (62, .aload_n 2), (63, .aload_n 3)], [(64, .iload 4), (66, .invokevirtual 129), (69, .goto 50), (72, .aload_n 0), (73, .aload_n 1), (74, .aload_n 2), (75, .aload_n 3), (76, .iload 4), (78, .invokevirtual 132), (81, .goto 38), (84, .aload_n 0), (85, .aload_n 1), (86, .aload_n 2), (87, .aload_n 3), (88, .iload 4), (90, .invokevirtual 135), (93, .goto 26), (96, .aload_n 0), (97, .aload_n 3), (98, .getfield 138), (101, .aload_n 3), (102, .getfield 122), (105, .invokevirtual 86), (108, .goto 11), (111, .aload_n 0), (112, .aload_n 3), (113, .getfield 138), (116, .invokevirtual 79), (119, .return_)]])
def gx_e84 : gx_E := (⟨"CopiedGraphs$Writer", "writeRecord", "(LCopiedGraphs$Store;LCopiedGraphs$Handover;LCopiedGraphs$Thing;I)V"⟩, prog_7_method_13_code, (9, (Option.none : Option Jvm.ClassFile.FieldType), []), (5, 1, 4, 5), [[(0, .aload_n 3), (1, .getfield 122), (4, .istore 5), (6, .aload_n 0), (7, .getfield 24), (10, .iload 4), (12, .aaload), (13, .astore 6), (15, .aload_n 3), (16, .getfield 142), (19, .iconst 0), (20, .aload 6), (22, .iconst 0), (23, .iload 5), (25, .invokestatic 145), (28, .iconst 0), (29, .istore 7), (31, .iload 7), (33, .iload 5), (35, .if_icmp .ge 45), (38, .aload_n 0), (39, .getfield 50), (42, .ifCond .ne 38), (45, .aload_n 3), (46, .iconst 4), (47, .aload 6), (49, .iload 7), (51, .iaload), (52, .invokevirtual 151), (55, .istore 8), (57, .iload 8), (59, .iconst (-1)), (60, .if_icmp .eq 14), (63, .aload_n 0)], [(64, .aload_n 1), (65, .aload_n 2), (66, .aload_n 3), (67, .iload 8), (69, .iload 4), (71, .invokevirtual 155), (74, .iinc 7 1), (77, .goto (-46)), (80, .aload_n 0), (81, .iconst 0), (82, .invokevirtual 53), (85, .return_)]])
def gx_e85 : gx_E := (⟨"CopiedGraphs$Writer", "writeProperty", "(LCopiedGraphs$Store;LCopiedGraphs$Handover;LCopiedGraphs$Thing;II)V"⟩, prog_7_method_14_code, (9, (Option.none : Option Jvm.ClassFile.FieldType), []), (5, 1, 5, 5), [[(0, .aload_n 3), (1, .getfield 142), (4, .iload 4), (6, .iaload), (7, .istore 6), (9, .aload_n 3), (10, .getfield 159), (13, .iload 4), (15, .iaload), (16, .istore 7), (18, .aload_n 3), (19, .getfield 162), (22, .iload 4), (24, .iaload), (25, .istore 8), (27, .iload 7), (29, .bipush 8), (31, .if_icmp .ne 23), (34, .aload_n 0), (35, .aload_n 1), (36, .aload_n 3), (37, .iload 8), (39, .invokevirtual 165), (42, .iconst 4), (43, .istore 7), (45, .iload 8), (47, .bipush 8), (49, .invokestatic 169), (52, .istore 8), (54, .aload_n 0), (55, .iconst 1), (56, .invokevirtual 53), (59, .aload_n 0), (60, .iload 6), (62, .i2l), (63, .invokevirtual 79)], [(66, .aload_n 0), (67, .aload_n 1), (68, .aload_n 2), (69, .iload 7), (71, .iload 8), (73, .iload 5), (75, .iconst 1), (76, .iadd), (77, .invokevirtual 57), (80, .return_)]])
def gx_e86 : gx_E := (⟨"CopiedGraphs$Writer", "runGetter", "(LCopiedGraphs$Store;LCopiedGraphs$Thing;I)V"⟩, prog_7_method_15_code, (5, (Option.none : Option Jvm.ClassFile.FieldType), []), (5, 1, 3, 5), [[(0, .iload_n 3), (1, .bipush 8), (3, .invokestatic 169), (6, .istore 4), (8, .iload_n 3), (9, .bipush 8), (11, .invokestatic 174), (14, .tableswitch 82 1 4 #[30, 38, 48, 72]), (44, .aload_n 0), (45, .iconst 2), (46, .putfield 50), (49, .goto 47), (52, .aload_n 2), (53, .iload 4), (55, .invokevirtual 177), (58, .pop), (59, .goto 37), (62, .aload_n 2), (63, .iconst 4)], [(64, .iload 4), (66, .invokevirtual 151), (69, .iconst (-1)), (70, .if_icmp .ne 26), (73, .aload_n 2), (74, .iload 4), (76, .iconst 4), (77, .bipush 7), (79, .invokevirtual 180), (82, .pop), (83, .goto 13), (86, .aload_n 1), (87, .iload 4), (89, .invokevirtual 184), (92, .pop), (93, .goto 3), (96, .return_)]])
def gx_e87 : gx_E := (⟨"java/lang/Math", "floorDiv", "(II)I"⟩, prog_14_method_47_code, (3, (Option.some Jvm.ClassFile.FieldType.int), []), (8, 0, 2, 0), [[(0, .iload_n 0), (1, .iload_n 1), (2, .idiv), (3, .istore_n 2), (4, .iload_n 0), (5, .iload_n 1), (6, .ixor), (7, .ifCond .ge 14), (10, .iload_n 2), (11, .iload_n 1), (12, .imul), (13, .iload_n 0), (14, .if_icmp .eq 7), (17, .iload_n 2), (18, .iconst 1), (19, .isub), (20, .ireturn), (21, .iload_n 2), (22, .ireturn)]])
def gx_e88 : gx_E := (⟨"java/lang/Math", "floorMod", "(II)I"⟩, prog_14_method_50_code, (3, (Option.some Jvm.ClassFile.FieldType.int), []), (8, 0, 2, 0), [[(0, .iload_n 0), (1, .iload_n 1), (2, .irem), (3, .istore_n 2), (4, .iload_n 0), (5, .iload_n 1), (6, .ixor), (7, .ifCond .ge 11), (10, .iload_n 2), (11, .ifCond .eq 7), (14, .iload_n 2), (15, .iload_n 1), (16, .iadd), (17, .ireturn), (18, .iload_n 2), (19, .ireturn)]])
def gx_e89 : gx_E := (⟨"CopiedGraphs$Writer", "writeZigzag", "(J)V"⟩, prog_7_method_5_code, (3, (Option.none : Option Jvm.ClassFile.FieldType), []), (5, 1, 1, 5), [[(0, .aload_n 0), (1, .lload_n 1), (2, .iconst 1), (3, .lshl), (4, .lload_n 1), (5, .bipush 63), (7, .lshr), (8, .lxor), (9, .invokevirtual 67), (12, .return_)]])
def gx_e90 : gx_E := (⟨"CopiedGraphs$Writer", "writeList", "(LCopiedGraphs$Store;LCopiedGraphs$Handover;LCopiedGraphs$Thing;I)V"⟩, prog_7_method_16_code, (6, (Option.none : Option Jvm.ClassFile.FieldType), []), (5, 1, 4, 5), [[(0, .aload_n 0), (1, .aload_n 3), (2, .getfield 122), (5, .invokevirtual 53), (8, .iconst 0), (9, .istore 5), (11, .iload 5), (13, .aload_n 3), (14, .getfield 122), (17, .if_icmp .ge 57), (20, .aload_n 3), (21, .getfield 159), (24, .iload 5), (26, .iaload), (27, .iconst (-1)), (28, .if_icmp .ne 11), (31, .aload_n 0), (32, .iconst 0), (33, .invokevirtual 53), (36, .goto 32), (39, .aload_n 0), (40, .iconst 1), (41, .invokevirtual 53), (44, .aload_n 0), (45, .aload_n 1), (46, .aload_n 2), (47, .aload_n 3), (48, .getfield 159), (51, .iload 5), (53, .iaload), (54, .aload_n 3), (55, .getfield 162), (58, .iload 5), (60, .iaload), (61, .iload 4), (63, .iconst 1)], [(64, .iadd), (65, .invokevirtual 57), (68, .iinc 5 1), (71, .goto (-60)), (74, .return_)]])
def gx_e91 : gx_E := (⟨"CopiedGraphs$Writer", "writeMap", "(LCopiedGraphs$Store;LCopiedGraphs$Handover;LCopiedGraphs$Thing;I)V"⟩, prog_7_method_17_code, (6, (Option.none : Option Jvm.ClassFile.FieldType), []), (5, 1, 4, 5), [[(0, .aload_n 0), (1, .aload_n 3), (2, .getfield 122), (5, .invokevirtual 53), (8, .iconst 0), (9, .istore 5), (11, .iload 5), (13, .aload_n 3), (14, .getfield 122), (17, .if_icmp .ge 57), (20, .aload_n 0), (21, .aload_n 1), (22, .aload_n 2), (23, .aload_n 3), (24, .getfield 187), (27, .iload 5), (29, .iaload), (30, .aload_n 3), (31, .getfield 142), (34, .iload 5), (36, .iaload), (37, .iload 4), (39, .iconst 1), (40, .iadd), (41, .invokevirtual 57), (44, .aload_n 0), (45, .aload_n 1), (46, .aload_n 2), (47, .aload_n 3), (48, .getfield 159), (51, .iload 5), (53, .iaload), (54, .aload_n 3), (55, .getfield 162), (58, .iload 5), (60, .iaload), (61, .iload 4), (63, .iconst 1)], [(64, .iadd), (65, .invokevirtual 57), (68, .iinc 5 1), (71, .goto (-60)), (74, .return_)]])
def gx_e92 : gx_E := (⟨"CopiedGraphs$Writer", "writeSet", "(LCopiedGraphs$Store;LCopiedGraphs$Handover;LCopiedGraphs$Thing;I)V"⟩, prog_7_method_18_code, (6, (Option.none : Option Jvm.ClassFile.FieldType), []), (5, 1, 4, 5), [[(0, .aload_n 0), (1, .aload_n 3), (2, .getfield 122), (5, .invokevirtual 53), (8, .iconst 0), (9, .istore 5), (11, .iload 5), (13, .aload_n 3), (14, .getfield 122), (17, .if_icmp .ge 33), (20, .aload_n 0), (21, .aload_n 1), (22, .aload_n 2), (23, .aload_n 3), (24, .getfield 159), (27, .iload 5), (29, .iaload), (30, .aload_n 3), (31, .getfield 162), (34, .iload 5), (36, .iaload), (37, .iload 4), (39, .iconst 1), (40, .iadd), (41, .invokevirtual 57), (44, .iinc 5 1), (47, .goto (-36)), (50, .return_)]])
def gx_e93 : gx_E := (⟨"CopiedGraphs$Writer", "writeWord", "(JI)V"⟩, prog_7_method_6_code, (5, (Option.none : Option Jvm.ClassFile.FieldType), []), (5, 1, 2, 5), [[(0, .aload_n 0), (1, .iload_n 3), (2, .invokevirtual 53), (5, .iconst 0), (6, .istore 4), (8, .iload 4), (10, .iload_n 3), (11, .if_icmp .ge 19), (14, .aload_n 0), (15, .lload_n 1), (16, .iload 4), (18, .invokestatic 71), (21, .invokevirtual 53), (24, .iinc 4 1), (27, .goto (-19)), (30, .return_)]])
def gx_e94 : gx_E := (⟨"CopiedGraphs$Writer", "textLength", "(I)I"⟩, prog_7_method_8_code, (2, (Option.some Jvm.ClassFile.FieldType.int), []), (5, 0, 1, 0), [[(0, .iconst 0), (1, .istore_n 1), (2, .iload_n 1), (3, .iconst 4), (4, .if_icmp .ge 18), (7, .iload_n 0), (8, .i2l), (9, .iload_n 1), (10, .invokestatic 71), (13, .ifCond .eq 9), (16, .iinc 1 1), (19, .goto (-17)), (22, .iload_n 1), (23, .ireturn)]])
def gx_e95 : gx_E := (⟨"CopiedGraphs$Handover", "handOver", "(LCopiedGraphs$Store;)V"⟩, prog_3_method_6_code, (4, (Option.none : Option Jvm.ClassFile.FieldType), []), (4, 1, 1, 4), [[(0, .iconst 0), (1, .istore_n 2), (2, .iload_n 2), (3, .aload_n 0), (4, .getfield 22), (7, .if_icmp .ge 49), (10, .aload_n 1), (11, .aload_n 0), (12, .getfield 9), (15, .iload_n 2), (16, .iaload), (17, .invokevirtual 36), (20, .astore_n 3), (21, .aload_n 3), (22, .ifnull 28), (25, .aload_n 0), (26, .getfield 15), (29, .iload_n 2), (30, .aload_n 3), (31, .getfield 40), (34, .lastore), (35, .aload_n 0), (36, .getfield 19), (39, .iload_n 2), (40, .aload_n 3), (41, .getfield 46), (44, .iastore), (45, .aload_n 3), (46, .iconst 1), (47, .putfield 49), (50, .iinc 2 1), (53, .goto (-51)), (56, .aload_n 0), (57, .aload_n 0), (58, .getfield 22), (61, .putfield 53)], [(64, .return_)]])
def gx_e96 : gx_E := (⟨"CopiedGraphs$Bytes", "becomeLike", "(LCopiedGraphs$Bytes;)V"⟩, prog_2_method_3_code, (2, (Option.none : Option Jvm.ClassFile.FieldType), []), (3, 1, 1, 3), [[(0, .aload_n 1), (1, .getfield 9), (4, .iconst 0), (5, .aload_n 0), (6, .getfield 9), (9, .iconst 0), (10, .aload_n 1), (11, .getfield 15), (14, .invokestatic 19), (17, .aload_n 0), (18, .aload_n 1), (19, .getfield 15), (22, .putfield 15), (25, .return_)]])
def gx_e97 : gx_E := (⟨"CopiedGraphsLaw", "read", "(LCopiedGraphs;[J)I"⟩, method_14_code, (3, (Option.some Jvm.ClassFile.FieldType.int), [(0, 8, 11, 13)]), (7, 0, 2, 0), [[(0, .aload_n 1), (1, .iconst 0), (2, .aload_n 0), (3, .invokevirtual 60), (6, .i2l), (7, .lastore), (8, .goto 6), (11, .astore_n 2), (12, .iconst 1), (13, .ireturn), (14, .iconst 0), (15, .ireturn)]])
def gx_e98 : gx_E := (⟨"CopiedGraphs", "read", "()I"⟩, prog_1_method_19_code, (1, (Option.some Jvm.ClassFile.FieldType.int), []), (0, 1, 0, 0), [[(0, .aload_n 0), (1, .getfield 40), (4, .aload_n 0), (5, .getfield 10), (8, .aload_n 0), (9, .getfield 19), (12, .aload_n 0), (13, .getfield 26), (16, .invokevirtual 204), (19, .ifCond .ne 13), (22, .new 48), (25, .dup), (26, .ldc 207), (28, .invokespecial 52), (31, .athrow), (32, .aload_n 0), (33, .getfield 26), (36, .iconst 0), (37, .putfield 154), (40, .aload_n 0), (41, .aload_n 0), (42, .getfield 40), (45, .getfield 209), (48, .putfield 44), (51, .aload_n 0), (52, .getfield 40), (55, .getfield 212), (58, .ireturn)]])
def gx_e99 : gx_E := (⟨"CopiedGraphs$Reader", "run", "(LCopiedGraphs$Store;LCopiedGraphs$Bytes;LCopiedGraphs$Handover;)Z"⟩, prog_4_method_2_code, (5, (Option.some Jvm.ClassFile.FieldType.boolean), []), (6, 1, 3, 6), [[(0, .aload_n 1), (1, .getfield 9), (4, .istore 4), (6, .aload_n 0), (7, .iconst 0), (8, .putfield 15), (11, .aload_n 0), (12, .iconst 0), (13, .putfield 20), (16, .aload_n 0), (17, .aload_n 1), (18, .aload_n 3), (19, .invokevirtual 24), (22, .aload_n 0), (23, .aload_n 2), (24, .invokevirtual 28), (27, .bipush 15), (29, .if_icmp .eq 8), (32, .aload_n 0), (33, .iconst 1), (34, .putfield 20), (37, .aload_n 0), (38, .aload_n 1), (39, .aload_n 2), (40, .iconst 1), (41, .invokevirtual 32), (44, .aload_n 0), (45, .getfield 15), (48, .aload_n 2), (49, .getfield 36), (52, .if_icmp .eq 8), (55, .aload_n 0), (56, .iconst 1), (57, .putfield 20), (60, .aload_n 0), (61, .getfield 20)], [(64, .ifCond .eq 9), (67, .aload_n 1), (68, .iload 4), (70, .putfield 9), (73, .aload_n 0), (74, .getfield 20), (77, .ifCond .ne 7), (80, .iconst 1), (81, .goto 4), (84, .iconst 0), (85, .ireturn)]])
def gx_e100 : gx_E := (⟨"CopiedGraphs$Reader", "makeHanded", "(LCopiedGraphs$Store;LCopiedGraphs$Handover;)V"⟩, prog_4_method_3_code, (5, (Option.none : Option Jvm.ClassFile.FieldType), []), (6, 1, 2, 6), [[(0, .aload_n 0), (1, .aload_n 1), (2, .getfield 9), (5, .putfield 39), (8, .aload_n 0), (9, .aload_n 2), (10, .getfield 42), (13, .putfield 47), (16, .iconst 0), (17, .istore_n 3), (18, .iload_n 3), (19, .aload_n 0), (20, .getfield 47), (23, .if_icmp .ge 39), (26, .aload_n 0), (27, .aload_n 1), (28, .iconst 4), (29, .invokevirtual 50), (32, .astore 4), (34, .aload 4), (36, .ifnull 20), (39, .aload 4), (41, .aload_n 2), (42, .getfield 54), (45, .iload_n 3), (46, .laload), (47, .aload_n 2), (48, .getfield 58), (51, .iload_n 3), (52, .iaload), (53, .invokevirtual 62), (56, .iinc 3 1), (59, .goto (-41)), (62, .aload_n 0), (63, .aload_n 1)], [(64, .getfield 9), (67, .putfield 68), (70, .return_)]])
def gx_e101 : gx_E := (⟨"CopiedGraphs$Reader", "beginThing", "(LCopiedGraphs$Store;I)LCopiedGraphs$Thing;"⟩, prog_4_method_4_code, (4, (Option.some (Jvm.ClassFile.FieldType.object "CopiedGraphs$Thing")), []), (6, 1, 2, 6), [[(0, .aload_n 1), (1, .iload_n 2), (2, .invokevirtual 71), (5, .istore_n 3), (6, .iload_n 3), (7, .iconst (-1)), (8, .if_icmp .ne 8), (11, .aload_n 0), (12, .iconst 1), (13, .putfield 20), (16, .aload_n 1), (17, .iload_n 3), (18, .invokevirtual 75), (21, .areturn)]])
def gx_e102 : gx_E := (⟨"CopiedGraphs$Reader", "nextByte", "(LCopiedGraphs$Bytes;)I"⟩, prog_4_method_5_code, (2, (Option.some Jvm.ClassFile.FieldType.int), []), (6, 1, 1, 6), [[(0, .aload_n 0), (1, .getfield 20), (4, .ifCond .ne 14), (7, .aload_n 0), (8, .getfield 15), (11, .aload_n 1), (12, .getfield 36), (15, .if_icmp .lt 10), (18, .aload_n 0), (19, .iconst 1), (20, .putfield 20), (23, .iconst 0), (24, .ireturn), (25, .aload_n 0), (26, .dup), (27, .getfield 15), (30, .iconst 1), (31, .iadd), (32, .putfield 15), (35, .aload_n 1), (36, .getfield 79), (39, .aload_n 0), (40, .getfield 15), (43, .iconst 1), (44, .isub), (45, .iaload), (46, .ireturn)]])
def gx_e103 : gx_E := (⟨"CopiedGraphs$Reader", "readValue", "(LCopiedGraphs$Store;LCopiedGraphs$Bytes;I)V"⟩, prog_4_method_12_code, (5, (Option.none : Option Jvm.ClassFile.FieldType), []), (6, 1, 3, 6), [[(0, .iload_n 3), (1, .bipush 12), (3, .if_icmp .le 8), (6, .aload_n 0), (7, .iconst 1), (8, .putfield 20), (11, .aload_n 0), (12, .aload_n 2), (13, .bipush 14), (15, .invokevirtual 95), (18, .istore 4), (20, .aload_n 0), (21, .getfield 20), (24, .ifCond .eq 4), (27, .return_), (28, .iload 4), (30, .tableswitch 122 4 13 #[54, 67, 75, 96, 122, 122, 122, 122, 122, 112])], [(84, .aload_n 0), (85, .iconst 4), (86, .aload_n 0), (87, .aload_n 2), (88, .invokevirtual 99), (91, .invokevirtual 102), (94, .goto 86), (97, .aload_n 0), (98, .aload_n 2), (99, .invokevirtual 106), (102, .goto 78), (105, .aload_n 0), (106, .aload_n 2), (107, .aload_n 0), (108, .getfield 68), (111, .aload_n 1), (112, .getfield 9), (115, .aload_n 0), (116, .getfield 68), (119, .isub), (120, .invokevirtual 110), (123, .goto 57), (126, .aload_n 0), (127, .aload_n 2)], [(128, .aload_n 0), (129, .getfield 39), (132, .aload_n 0), (133, .getfield 47), (136, .invokevirtual 110), (139, .goto 41), (142, .aload_n 0), (143, .aload_n 1), (144, .aload_n 2), (145, .iload_n 3), (146, .invokevirtual 114), (149, .goto 31), (152, .iload 4), (154, .iconst 3), (155, .if_icmp .gt 13), (158, .aload_n 0), (159, .iload 4), (161, .iconst 0), (162, .invokevirtual 102), (165, .goto 15), (168, .aload_n 0), (169, .aload_n 1), (170, .aload_n 2), (171, .iload 4), (173, .bipush 8), (175, .isub), (176, .iload_n 3), (177, .invokevirtual 117), (180, .return_)]])
def gx_e104 : gx_E := (⟨"CopiedGraphs$Reader", "nextUpTo", "(LCopiedGraphs$Bytes;I)I"⟩, prog_4_method_6_code, (4, (Option.some Jvm.ClassFile.FieldType.int), []), (6, 1, 2, 6), [[(0, .aload_n 0), (1, .aload_n 1), (2, .invokevirtual 28), (5, .istore_n 3), (6, .iload_n 3), (7, .iload_n 2), (8, .if_icmp .le 10), (11, .aload_n 0), (12, .iconst 1), (13, .putfield 20), (16, .iconst 0), (17, .ireturn), (18, .iload_n 3), (19, .ireturn)]])
def gx_e105 : gx_E := (⟨"CopiedGraphs$Reader", "nextInt", "(LCopiedGraphs$Bytes;)I"⟩, prog_4_method_9_code, (4, (Option.some Jvm.ClassFile.FieldType.int), []), (6, 1, 1, 6), [[(0, .aload_n 0), (1, .aload_n 1), (2, .invokevirtual 86), (5, .lstore_n 2), (6, .lload_n 2), (7, .lload_n 2), (8, .l2i), (9, .i2l), (10, .lcmp), (11, .ifCond .eq 8), (14, .aload_n 0), (15, .iconst 1), (16, .putfield 20), (19, .lload_n 2), (20, .l2i), (21, .ireturn)]])
def gx_e106 : gx_E := (⟨"CopiedGraphs$Reader", "nextZigzag", "(LCopiedGraphs$Bytes;)J"⟩, prog_4_method_8_code, (4, (Option.some Jvm.ClassFile.FieldType.long), []), (6, 1, 1, 6), [[(0, .aload_n 0), (1, .aload_n 1), (2, .invokevirtual 82), (5, .lstore_n 2), (6, .lload_n 2), (7, .iconst 1), (8, .lushr), (9, .lload_n 2), (10, .lconst 1), (11, .land), (12, .lneg), (13, .lxor), (14, .lreturn)]])
def gx_e107 : gx_E := (⟨"CopiedGraphs$Reader", "nextLengthy", "(LCopiedGraphs$Bytes;)J"⟩, prog_4_method_7_code, (8, (Option.some Jvm.ClassFile.FieldType.long), []), (6, 1, 1, 6), [[(0, .lconst 0), (1, .lstore_n 2), (2, .iconst 0), (3, .istore 4), (5, .iload 4), (7, .bipush 10), (9, .if_icmp .ge 104), (12, .aload_n 0), (13, .aload_n 1), (14, .invokevirtual 28), (17, .istore 5), (19, .lload_n 2), (20, .iload 5), (22, .bipush 127), (24, .iand), (25, .i2l), (26, .bipush 7), (28, .iload 4), (30, .imul), (31, .lshl), (32, .lor), (33, .lstore_n 2), (34, .iload 5), (36, .sipush 128), (39, .if_icmp .ge 68), (42, .iload 4), (44, .ifCond .le 12), (47, .iload 5), (49, .ifCond .ne 7), (52, .iconst 1), (53, .goto 4), (56, .iconst 0), (57, .istore 6), (59, .iload 4), (61, .bipush 9), (63, .if_icmp .ne 13)], [(66, .iload 5), (68, .iconst 1), (69, .if_icmp .le 7), (72, .iconst 1), (73, .goto 4), (76, .iconst 0), (77, .istore 7), (79, .aload_n 0), (80, .aload_n 0), (81, .getfield 20), (84, .ifCond .ne 13), (87, .iload 6), (89, .ifCond .ne 8), (92, .iload 7), (94, .ifCond .eq 7), (97, .iconst 1), (98, .goto 4), (101, .iconst 0), (102, .putfield 20), (105, .lload_n 2), (106, .lreturn), (107, .iinc 4 1), (110, .goto (-105)), (113, .aload_n 0), (114, .iconst 1), (115, .putfield 20), (118, .lload_n 2), (119, .lreturn)]])
def gx_e108 : gx_E := (⟨"CopiedGraphs$Reader", "settle", "(II)V"⟩, prog_4_method_11_code, (3, (Option.none : Option Jvm.ClassFile.FieldType), []), (6, 1, 2, 6), [[(0, .aload_n 0), (1, .iload_n 1), (2, .putfield 89), (5, .aload_n 0), (6, .iload_n 2), (7, .putfield 92), (10, .return_)]])
def gx_e109 : gx_E := (⟨"CopiedGraphs$Reader", "readText", "(LCopiedGraphs$Bytes;)V"⟩, prog_4_method_13_code, (5, (Option.none : Option Jvm.ClassFile.FieldType), []), (6, 1, 1, 6), [[(0, .aload_n 0), (1, .aload_n 1), (2, .iconst 4), (3, .invokevirtual 95), (6, .istore_n 2), (7, .aload_n 0), (8, .aload_n 1), (9, .iload_n 2), (10, .invokevirtual 121), (13, .l2i), (14, .istore_n 3), (15, .iconst 0), (16, .istore 4), (18, .iload 4), (20, .iload_n 2), (21, .if_icmp .ge 24), (24, .iload_n 3), (25, .i2l), (26, .iload 4), (28, .invokestatic 125), (31, .ifCond .ne 8), (34, .aload_n 0), (35, .iconst 1), (36, .putfield 20), (39, .iinc 4 1), (42, .goto (-24)), (45, .aload_n 0), (46, .iconst 5), (47, .iload_n 3), (48, .invokevirtual 102), (51, .return_)]])
def gx_e110 : gx_E := (⟨"CopiedGraphs$Reader", "nextWord", "(LCopiedGraphs$Bytes;I)J"⟩, prog_4_method_10_code, (6, (Option.some Jvm.ClassFile.FieldType.long), []), (6, 1, 2, 6), [[(0, .lconst 0), (1, .lstore_n 3), (2, .iconst 0), (3, .istore 5), (5, .iload 5), (7, .iload_n 2), (8, .if_icmp .ge 24), (11, .lload_n 3), (12, .aload_n 0), (13, .aload_n 1), (14, .invokevirtual 28), (17, .i2l), (18, .bipush 8), (20, .iload 5), (22, .imul), (23, .lshl), (24, .lor), (25, .lstore_n 3), (26, .iinc 5 1), (29, .goto (-24)), (32, .lload_n 3), (33, .lreturn)]])
def gx_e111 : gx_E := (⟨"CopiedGraphs$Reader", "readPlace", "(LCopiedGraphs$Bytes;II)V"⟩, prog_4_method_14_code, (6, (Option.none : Option Jvm.ClassFile.FieldType), []), (6, 1, 3, 6), [[(0, .aload_n 0), (1, .aload_n 1), (2, .invokevirtual 82), (5, .lstore 4), (7, .lload 4), (9, .lconst 0), (10, .lcmp), (11, .ifCond .lt 11), (14, .lload 4), (16, .iload_n 3), (17, .i2l), (18, .lcmp), (19, .ifCond .lt 9), (22, .aload_n 0), (23, .iconst 1), (24, .putfield 20), (27, .return_), (28, .aload_n 0), (29, .bipush 6), (31, .iload_n 2), (32, .lload 4), (34, .l2i), (35, .iadd), (36, .invokevirtual 102), (39, .return_)]])
def gx_e112 : gx_E := (⟨"CopiedGraphs$Reader", "readView", "(LCopiedGraphs$Store;LCopiedGraphs$Bytes;I)V"⟩, prog_4_method_15_code, (10, (Option.none : Option Jvm.ClassFile.FieldType), []), (6, 1, 3, 6), [[(0, .aload_n 0), (1, .aload_n 2), (2, .invokevirtual 28), (5, .istore 4), (7, .aload_n 0), (8, .aload_n 2), (9, .invokevirtual 28), (12, .istore 5), (14, .aload_n 0), (15, .aload_n 2), (16, .invokevirtual 28), (19, .istore 6), (21, .aload_n 0), (22, .aload_n 1), (23, .aload_n 2), (24, .iload_n 3), (25, .iconst 1), (26, .iadd), (27, .invokevirtual 32), (30, .aload_n 0), (31, .getfield 20), (34, .ifCond .eq 4), (37, .return_), (38, .aload_n 0), (39, .getfield 92), (42, .istore 7), (44, .aload_n 1), (45, .iload 7), (47, .invokevirtual 75), (50, .astore 8), (52, .aload_n 0), (53, .getfield 89), (56, .bipush 6), (58, .if_icmp .ne 22), (61, .aload 8), (63, .ifnull 17)], [(66, .aload 8), (68, .iload 4), (70, .iload 5), (72, .iload 6), (74, .invokevirtual 129), (77, .ifCond .ne 9), (80, .aload_n 0), (81, .iconst 1), (82, .putfield 20), (85, .return_), (86, .aload_n 0), (87, .aload_n 1), (88, .iconst 5), (89, .invokevirtual 50), (92, .astore 9), (94, .aload 9), (96, .ifnull 28), (99, .aload 9), (101, .iload 7), (103, .iload 4), (105, .iload 5), (107, .iload 6), (109, .invokevirtual 133), (112, .aload_n 0), (113, .bipush 6), (115, .aload_n 1), (116, .getfield 9), (119, .iconst 1), (120, .isub), (121, .invokevirtual 102), (124, .return_)]])
def gx_e113 : gx_E := (⟨"CopiedGraphs$Reader", "readObject", "(LCopiedGraphs$Store;LCopiedGraphs$Bytes;II)V"⟩, prog_4_method_16_code, (7, (Option.none : Option Jvm.ClassFile.FieldType), []), (6, 1, 4, 6), [[(0, .aload_n 1), (1, .getfield 9), (4, .istore 5), (6, .aload_n 0), (7, .aload_n 1), (8, .iload_n 3), (9, .invokevirtual 50), (12, .astore 6), (14, .aload 6), (16, .ifnonnull 4), (19, .return_), (20, .iload_n 3), (21, .tableswitch 97 0 4 #[35, 48, 61, 74, 87]), (56, .aload_n 0), (57, .aload_n 1), (58, .aload_n 2), (59, .aload 6), (61, .iload 4), (63, .invokevirtual 137)], [(66, .goto 62), (69, .aload_n 0), (70, .aload_n 1), (71, .aload_n 2), (72, .aload 6), (74, .iload 4), (76, .invokevirtual 141), (79, .goto 49), (82, .aload_n 0), (83, .aload_n 1), (84, .aload_n 2), (85, .aload 6), (87, .iload 4), (89, .invokevirtual 144), (92, .goto 36), (95, .aload_n 0), (96, .aload_n 1), (97, .aload_n 2), (98, .aload 6), (100, .iload 4), (102, .invokevirtual 147), (105, .goto 23), (108, .aload_n 0), (109, .aload_n 2), (110, .aload 6), (112, .invokevirtual 150), (115, .goto 13), (118, .aload 6), (120, .aload_n 0), (121, .aload_n 2), (122, .invokevirtual 86), (125, .putfield 154)], [(128, .aload_n 0), (129, .bipush 6), (131, .iload 5), (133, .invokevirtual 102), (136, .return_)]])
def gx_e114 : gx_E := (⟨"CopiedGraphs$Reader", "readRecord", "(LCopiedGraphs$Store;LCopiedGraphs$Bytes;LCopiedGraphs$Thing;I)V"⟩, prog_4_method_17_code, (8, (Option.none : Option Jvm.ClassFile.FieldType), []), (6, 1, 4, 6), [[(0, .iconst 0), (1, .istore 5), (3, .iload 5), (5, .bipush 6), (7, .if_icmp .gt 88), (10, .aload_n 0), (11, .aload_n 2), (12, .iconst 1), (13, .invokevirtual 95), (16, .istore 6), (18, .aload_n 0), (19, .getfield 20), (22, .ifCond .ne 8), (25, .iload 6), (27, .ifCond .ne 4), (30, .return_), (31, .aload_n 0), (32, .aload_n 2), (33, .invokevirtual 99), (36, .istore 7), (38, .aload_n 0), (39, .aload_n 1), (40, .aload_n 2), (41, .iload 4), (43, .iconst 1), (44, .iadd), (45, .invokevirtual 32), (48, .aload_n 0), (49, .getfield 20), (52, .ifCond .ne 31), (55, .aload_n 3), (56, .iconst 4), (57, .iload 7), (59, .invokevirtual 158), (62, .iconst (-1)), (63, .if_icmp .ne 20)], [(66, .aload_n 3), (67, .iload 7), (69, .aload_n 0), (70, .getfield 89), (73, .aload_n 0), (74, .getfield 92), (77, .invokevirtual 162), (80, .ifCond .ne 9), (83, .aload_n 0), (84, .iconst 1), (85, .putfield 20), (88, .return_), (89, .iinc 5 1), (92, .goto (-89)), (95, .return_)]])
def gx_e115 : gx_E := (⟨"CopiedGraphs$Reader", "readList", "(LCopiedGraphs$Store;LCopiedGraphs$Bytes;LCopiedGraphs$Thing;I)V"⟩, prog_4_method_18_code, (8, (Option.none : Option Jvm.ClassFile.FieldType), []), (6, 1, 4, 6), [[(0, .aload_n 0), (1, .aload_n 2), (2, .bipush 8), (4, .invokevirtual 95), (7, .istore 5), (9, .iconst 0), (10, .istore 6), (12, .iload 6), (14, .iload 5), (16, .if_icmp .ge 65), (19, .aload_n 0), (20, .getfield 20), (23, .ifCond .ne 58), (26, .aload_n 0), (27, .aload_n 2), (28, .iconst 1), (29, .invokevirtual 95), (32, .istore 7), (34, .iload 7), (36, .iconst 1), (37, .if_icmp .ne 30), (40, .aload_n 0), (41, .aload_n 1), (42, .aload_n 2), (43, .iload 4), (45, .iconst 1), (46, .iadd), (47, .invokevirtual 32), (50, .aload_n 3), (51, .iload 6), (53, .aload_n 0), (54, .getfield 89), (57, .aload_n 0), (58, .getfield 92), (61, .invokevirtual 165)], [(64, .goto 11), (67, .aload_n 3), (68, .iload 6), (70, .iconst (-1)), (71, .iconst 0), (72, .invokevirtual 165), (75, .iinc 6 1), (78, .goto (-66)), (81, .return_)]])
def gx_e116 : gx_E := (⟨"CopiedGraphs$Reader", "readMap", "(LCopiedGraphs$Store;LCopiedGraphs$Bytes;LCopiedGraphs$Thing;I)V"⟩, prog_4_method_19_code, (9, (Option.none : Option Jvm.ClassFile.FieldType), []), (6, 1, 4, 6), [[(0, .aload_n 0), (1, .aload_n 2), (2, .iconst 4), (3, .invokevirtual 95), (6, .istore 5), (8, .iconst 0), (9, .istore 6), (11, .iload 6), (13, .iload 5), (15, .if_icmp .ge 91), (18, .aload_n 0), (19, .getfield 20), (22, .ifCond .ne 84), (25, .aload_n 0), (26, .aload_n 1), (27, .aload_n 2), (28, .iload 4), (30, .iconst 1), (31, .iadd), (32, .invokevirtual 32), (35, .aload_n 0), (36, .getfield 89), (39, .istore 7), (41, .aload_n 0), (42, .getfield 92), (45, .istore 8), (47, .aload_n 0), (48, .aload_n 1), (49, .aload_n 2), (50, .iload 4), (52, .iconst 1), (53, .iadd), (54, .invokevirtual 32), (57, .aload_n 0), (58, .getfield 20), (61, .ifCond .ne 34)], [(64, .aload_n 3), (65, .iload 7), (67, .iload 8), (69, .invokevirtual 158), (72, .iconst (-1)), (73, .if_icmp .ne 22), (76, .aload_n 3), (77, .iload 7), (79, .iload 8), (81, .aload_n 0), (82, .getfield 89), (85, .aload_n 0), (86, .getfield 92), (89, .invokevirtual 169), (92, .ifCond .ne 8), (95, .aload_n 0), (96, .iconst 1), (97, .putfield 20), (100, .iinc 6 1), (103, .goto (-92)), (106, .return_)]])
def gx_e117 : gx_E := (⟨"CopiedGraphs$Reader", "readSet", "(LCopiedGraphs$Store;LCopiedGraphs$Bytes;LCopiedGraphs$Thing;I)V"⟩, prog_4_method_20_code, (7, (Option.none : Option Jvm.ClassFile.FieldType), []), (6, 1, 4, 6), [[(0, .aload_n 0), (1, .aload_n 2), (2, .iconst 5), (3, .invokevirtual 95), (6, .istore 5), (8, .iconst 0), (9, .istore 6), (11, .iload 6), (13, .iload 5), (15, .if_icmp .ge 68), (18, .aload_n 0), (19, .getfield 20), (22, .ifCond .ne 61), (25, .aload_n 0), (26, .aload_n 1), (27, .aload_n 2), (28, .iload 4), (30, .iconst 1), (31, .iadd), (32, .invokevirtual 32), (35, .aload_n 0), (36, .getfield 20), (39, .ifCond .ne 33), (42, .aload_n 3), (43, .aload_n 0), (44, .getfield 89), (47, .aload_n 0), (48, .getfield 92), (51, .invokevirtual 173), (54, .ifCond .ne 18), (57, .aload_n 3), (58, .aload_n 0), (59, .getfield 89), (62, .aload_n 0), (63, .getfield 92)], [(66, .invokevirtual 177), (69, .ifCond .ne 8), (72, .aload_n 0), (73, .iconst 1), (74, .putfield 20), (77, .iinc 6 1), (80, .goto (-69)), (83, .return_)]])
def gx_e118 : gx_E := (⟨"CopiedGraphs$Reader", "readBuffer", "(LCopiedGraphs$Bytes;LCopiedGraphs$Thing;)V"⟩, prog_4_method_21_code, (4, (Option.none : Option Jvm.ClassFile.FieldType), []), (6, 1, 2, 6), [[(0, .aload_n 0), (1, .aload_n 1), (2, .bipush 8), (4, .invokevirtual 95), (7, .istore_n 3), (8, .aload_n 2), (9, .aload_n 0), (10, .aload_n 1), (11, .iload_n 3), (12, .invokevirtual 121), (15, .iload_n 3), (16, .invokevirtual 62), (19, .return_)]])
def gx_e119 : gx_E := (⟨"CopiedGraphsModel", "<init>", "()V"⟩, prog_9_method_1_code, (1, (Option.none : Option Jvm.ClassFile.FieldType), []), (9, 2, 0, 7), [[(0, .aload_n 0), (1, .invokespecial 1), (4, .aload_n 0), (5, .bipush 32), (7, .newarray .int), (9, .putfield 7), (12, .aload_n 0), (13, .bipush 32), (15, .newarray .int), (17, .putfield 13), (20, .aload_n 0), (21, .bipush 32), (23, .newarray .boolean), (25, .putfield 16), (28, .aload_n 0), (29, .bipush 32), (31, .newarray .long), (33, .putfield 20), (36, .aload_n 0), (37, .sipush 256), (40, .newarray .int), (42, .putfield 24), (45, .aload_n 0), (46, .sipush 256), (49, .newarray .int), (51, .putfield 27), (54, .aload_n 0), (55, .sipush 256), (58, .newarray .int), (60, .putfield 30), (63, .aload_n 0)], [(64, .sipush 256), (67, .newarray .int), (69, .putfield 33), (72, .aload_n 0), (73, .iconst 4), (74, .newarray .int), (76, .putfield 36), (79, .aload_n 0), (80, .iconst 4), (81, .newarray .int), (83, .putfield 39), (86, .aload_n 0), (87, .bipush 32), (89, .newarray .int), (91, .putfield 42), (94, .aload_n 0), (95, .sipush 300), (98, .newarray .int), (100, .putfield 45), (103, .aload_n 0), (104, .bipush 14), (106, .newarray .int), (108, .putfield 48), (111, .aload_n 0), (112, .bipush 14), (114, .newarray .int), (116, .putfield 51), (119, .aload_n 0), (120, .bipush 14), (122, .newarray .int), (124, .putfield 54), (127, .aload_n 0)], [(128, .bipush 84), (130, .newarray .int), (132, .putfield 57), (135, .aload_n 0), (136, .bipush 14), (138, .newarray .int), (140, .putfield 60), (143, .aload_n 0), (144, .bipush 14), (146, .newarray .int), (148, .putfield 63), (151, .aload_n 0), (152, .bipush 14), (154, .newarray .int), (156, .putfield 66), (159, .aload_n 0), (160, .sipush 300), (163, .newarray .int), (165, .putfield 69), (168, .aload_n 0), (169, .bipush 32), (171, .newarray .int), (173, .putfield 72), (176, .aload_n 0), (177, .bipush 32), (179, .newarray .int), (181, .putfield 75), (184, .return_)]])
def gx_e120 : gx_E := (⟨"CopiedGraphsModel", "thrown", "()I"⟩, prog_9_method_2_code, (1, (Option.some Jvm.ClassFile.FieldType.int), []), (9, 1, 0, 7), [[(0, .aload_n 0), (1, .getfield 78), (4, .ireturn)]])
def gx_e121 : gx_E := (⟨"CopiedGraphsModel", "make", "(I)I"⟩, prog_9_method_11_code, (3, (Option.some Jvm.ClassFile.FieldType.int), []), (9, 1, 1, 7), [[(0, .iload_n 1), (1, .ifCond .lt 8), (4, .iload_n 1), (5, .iconst 3), (6, .if_icmp .le 9), (9, .iload_n 1), (10, .bipush 7), (12, .if_icmp .ne 7), (15, .iconst 1), (16, .goto 4), (19, .iconst 0), (20, .istore_n 2), (21, .aload_n 0), (22, .iload_n 2), (23, .ifCond .ne 7), (26, .iconst 1), (27, .goto 4), (30, .iconst 0), (31, .aload_n 0), (32, .getfield 82), (35, .bipush 32), (37, .if_icmp .ne 7), (40, .iconst 1), (41, .goto 4), (44, .iconst 0), (45, .invokevirtual 96), (48, .ifCond .eq 7), (51, .iconst 0), (52, .goto 8), (55, .aload_n 0), (56, .iload_n 1), (57, .invokevirtual 100), (60, .ireturn)]])
def gx_e122 : gx_E := (⟨"CopiedGraphsModel", "refused", "(ZZ)Z"⟩, prog_9_method_8_code, (3, (Option.some Jvm.ClassFile.FieldType.boolean), []), (9, 1, 2, 7), [[(0, .aload_n 0), (1, .iload_n 1), (2, .ifCond .eq 7), (5, .iconst 1), (6, .goto 12), (9, .iload_n 2), (10, .ifCond .eq 7), (13, .iconst 2), (14, .goto 4), (17, .iconst 0), (18, .putfield 78), (21, .aload_n 0), (22, .getfield 78), (25, .ifCond .le 7), (28, .iconst 1), (29, .goto 4), (32, .iconst 0), (33, .ireturn)]])
def gx_e123 : gx_E := (⟨"CopiedGraphsModel", "fresh", "(I)I"⟩, prog_9_method_10_code, (2, (Option.some Jvm.ClassFile.FieldType.int), []), (9, 1, 1, 7), [[(0, .aload_n 0), (1, .aload_n 0), (2, .getfield 82), (5, .iload_n 1), (6, .invokevirtual 92), (9, .aload_n 0), (10, .dup), (11, .getfield 82), (14, .iconst 1), (15, .iadd), (16, .putfield 82), (19, .aload_n 0), (20, .getfield 82), (23, .iconst 1), (24, .isub), (25, .ireturn)]])
def gx_e124 : gx_E := (⟨"CopiedGraphsModel", "begin", "(II)V"⟩, prog_9_method_9_code, (3, (Option.none : Option Jvm.ClassFile.FieldType), []), (9, 1, 2, 7), [[(0, .aload_n 0), (1, .getfield 7), (4, .iload_n 1), (5, .iload_n 2), (6, .iastore), (7, .aload_n 0), (8, .getfield 13), (11, .iload_n 1), (12, .iconst 0), (13, .iastore), (14, .aload_n 0), (15, .getfield 16), (18, .iload_n 1), (19, .iconst 0), (20, .bastore), (21, .aload_n 0), (22, .getfield 20), (25, .iload_n 1), (26, .lconst 0), (27, .lastore), (28, .return_)]])
def gx_e125 : gx_E := (⟨"CopiedGraphsModel", "buffer", "(JI)I"⟩, prog_9_method_12_code, (6, (Option.some Jvm.ClassFile.FieldType.int), []), (9, 1, 2, 7), [[(0, .aload_n 0), (1, .iload_n 3), (2, .ifCond .lt 9), (5, .iload_n 3), (6, .bipush 8), (8, .if_icmp .le 7), (11, .iconst 1), (12, .goto 4), (15, .iconst 0), (16, .aload_n 0), (17, .getfield 82), (20, .bipush 32), (22, .if_icmp .ne 7), (25, .iconst 1), (26, .goto 4), (29, .iconst 0), (30, .invokevirtual 96), (33, .ifCond .eq 5), (36, .iconst 0), (37, .ireturn), (38, .aload_n 0), (39, .iconst 4), (40, .invokevirtual 100), (43, .istore 4), (45, .aload_n 0), (46, .getfield 13), (49, .iload 4), (51, .iload_n 3), (52, .iastore), (53, .iconst 0), (54, .istore 5), (56, .iload 5), (58, .iload_n 3), (59, .if_icmp .ge 34), (62, .aload_n 0), (63, .getfield 33)], [(66, .bipush 8), (68, .iload 4), (70, .imul), (71, .iload 5), (73, .iadd), (74, .lload_n 1), (75, .bipush 8), (77, .iload 5), (79, .imul), (80, .lshr), (81, .ldc2_w 104), (84, .land), (85, .l2i), (86, .iastore), (87, .iinc 5 1), (90, .goto (-34)), (93, .iload 4), (95, .ireturn)]])
def gx_e126 : gx_E := (⟨"CopiedGraphsModel", "view", "(IIII)I"⟩, prog_9_method_16_code, (7, (Option.some Jvm.ClassFile.FieldType.int), []), (9, 1, 4, 7), [[(0, .aload_n 0), (1, .iload_n 1), (2, .iconst 4), (3, .invokevirtual 109), (6, .ifCond .eq 32), (9, .aload_n 0), (10, .getfield 16), (13, .iload_n 1), (14, .baload), (15, .ifCond .ne 23), (18, .iload_n 2), (19, .iload_n 3), (20, .iload 4), (22, .aload_n 0), (23, .getfield 13), (26, .iload_n 1), (27, .iaload), (28, .invokestatic 113), (31, .ifCond .eq 7), (34, .iconst 1), (35, .goto 4), (38, .iconst 0), (39, .istore 5), (41, .aload_n 0), (42, .iload 5), (44, .ifCond .ne 7), (47, .iconst 1), (48, .goto 4), (51, .iconst 0), (52, .aload_n 0), (53, .getfield 82), (56, .bipush 32), (58, .if_icmp .ne 7), (61, .iconst 1), (62, .goto 4)], [(65, .iconst 0), (66, .invokevirtual 96), (69, .ifCond .eq 5), (72, .iconst 0), (73, .ireturn), (74, .aload_n 0), (75, .iconst 5), (76, .invokevirtual 100), (79, .istore 6), (81, .aload_n 0), (82, .iload 6), (84, .iload_n 1), (85, .iload_n 2), (86, .iload_n 3), (87, .iload 4), (89, .invokevirtual 117), (92, .iload 6), (94, .ireturn)]])
def gx_e127 : gx_E := (⟨"CopiedGraphsModel", "is", "(II)Z"⟩, prog_9_method_4_code, (3, (Option.some Jvm.ClassFile.FieldType.boolean), []), (9, 1, 2, 7), [[(0, .aload_n 0), (1, .iload_n 1), (2, .invokevirtual 85), (5, .ifCond .eq 17), (8, .aload_n 0), (9, .getfield 7), (12, .iload_n 1), (13, .iaload), (14, .iload_n 2), (15, .if_icmp .ne 7), (18, .iconst 1), (19, .goto 4), (22, .iconst 0), (23, .ireturn)]])
def gx_e128 : gx_E := (⟨"CopiedGraphsModel", "isObject", "(I)Z"⟩, prog_9_method_3_code, (2, (Option.some Jvm.ClassFile.FieldType.boolean), []), (9, 1, 1, 7), [[(0, .iload_n 1), (1, .ifCond .lt 15), (4, .iload_n 1), (5, .aload_n 0), (6, .getfield 82), (9, .if_icmp .ge 7), (12, .iconst 1), (13, .goto 4), (16, .iconst 0), (17, .ireturn)]])
def gx_e129 : gx_E := (⟨"CopiedGraphsModel", "lies", "(IIII)Z"⟩, prog_9_method_14_code, (4, (Option.some Jvm.ClassFile.FieldType.boolean), []), (9, 0, 4, 0), [[(0, .iload_n 0), (1, .invokestatic 106), (4, .ifCond .eq 40), (7, .iload_n 1), (8, .ifCond .lt 36), (11, .iload_n 1), (12, .iload_n 3), (13, .if_icmp .gt 31), (16, .iload_n 1), (17, .iload_n 0), (18, .irem), (19, .ifCond .ne 25), (22, .iload_n 2), (23, .ifCond .lt 21), (26, .iload_n 2), (27, .iload_n 3), (28, .if_icmp .gt 16), (31, .iload_n 1), (32, .iload_n 0), (33, .iload_n 2), (34, .imul), (35, .iadd), (36, .iload_n 3), (37, .if_icmp .gt 7), (40, .iconst 1), (41, .goto 4), (44, .iconst 0), (45, .ireturn)]])
def gx_e130 : gx_E := (⟨"CopiedGraphsModel", "isUnit", "(I)Z"⟩, prog_9_method_13_code, (1, (Option.some Jvm.ClassFile.FieldType.boolean), []), (9, 0, 1, 0), [[(0, .iload_n 0), (1, .iconst 1), (2, .if_icmp .eq 13), (5, .iload_n 0), (6, .iconst 2), (7, .if_icmp .eq 8), (10, .iload_n 0), (11, .iconst 4), (12, .if_icmp .ne 7), (15, .iconst 1), (16, .goto 4), (19, .iconst 0), (20, .ireturn)]])
def gx_e131 : gx_E := (⟨"CopiedGraphsModel", "setView", "(IIIII)V"⟩, prog_9_method_15_code, (6, (Option.none : Option Jvm.ClassFile.FieldType), []), (9, 1, 5, 7), [[(0, .aload_n 0), (1, .getfield 13), (4, .iload_n 1), (5, .iload 5), (7, .iastore), (8, .aload_n 0), (9, .getfield 33), (12, .bipush 8), (14, .iload_n 1), (15, .imul), (16, .iload_n 2), (17, .iastore), (18, .aload_n 0), (19, .getfield 33), (22, .bipush 8), (24, .iload_n 1), (25, .imul), (26, .iconst 1), (27, .iadd), (28, .iload_n 3), (29, .iastore), (30, .aload_n 0), (31, .getfield 33), (34, .bipush 8), (36, .iload_n 1), (37, .imul), (38, .iconst 2), (39, .iadd), (40, .iload 4), (42, .iastore), (43, .aload_n 0), (44, .getfield 33), (47, .bipush 8), (49, .iload_n 1), (50, .imul), (51, .iconst 3), (52, .iadd), (53, .iload 5), (55, .iastore), (56, .return_)]])
def gx_e132 : gx_E := (⟨"CopiedGraphsModel", "stamp", "(J)I"⟩, prog_9_method_17_code, (4, (Option.some Jvm.ClassFile.FieldType.int), []), (9, 1, 1, 7), [[(0, .aload_n 0), (1, .aload_n 0), (2, .getfield 82), (5, .bipush 32), (7, .if_icmp .ne 7), (10, .iconst 1), (11, .goto 4), (14, .iconst 0), (15, .iconst 0), (16, .invokevirtual 96), (19, .ifCond .eq 5), (22, .iconst 0), (23, .ireturn), (24, .aload_n 0), (25, .bipush 6), (27, .invokevirtual 100), (30, .istore_n 3), (31, .aload_n 0), (32, .getfield 20), (35, .iload_n 3), (36, .lload_n 1), (37, .lastore), (38, .iload_n 3), (39, .ireturn)]])
def gx_e133 : gx_E := (⟨"CopiedGraphsModel", "put", "(IIII)V"⟩, prog_9_method_23_code, (9, (Option.none : Option Jvm.ClassFile.FieldType), []), (9, 1, 4, 7), [[(0, .aload_n 0), (1, .iload_n 1), (2, .iconst 0), (3, .invokevirtual 109), (6, .istore 5), (8, .aload_n 0), (9, .iload_n 1), (10, .iconst 1), (11, .invokevirtual 109), (14, .istore 6), (16, .aload_n 0), (17, .iload_n 3), (18, .iload 4), (20, .invokevirtual 135), (23, .ifCond .ne 14), (26, .iload 5), (28, .ifCond .eq 13), (31, .iload_n 3), (32, .bipush 8), (34, .if_icmp .ne 7), (37, .iconst 1), (38, .goto 4), (41, .iconst 0), (42, .istore 7), (44, .iload 5), (46, .ifCond .ne 8), (49, .iload 6), (51, .ifCond .eq 23), (54, .iload 7), (56, .ifCond .eq 18), (59, .iload 6), (61, .ifCond .eq 17)], [(64, .iload_n 2), (65, .ifCond .lt 9), (68, .iload_n 2), (69, .bipush 7), (71, .if_icmp .le 7), (74, .iconst 1), (75, .goto 4), (78, .iconst 0), (79, .istore 8), (81, .aload_n 0), (82, .iload 8), (84, .iload 5), (86, .ifCond .eq 27), (89, .aload_n 0), (90, .iload_n 1), (91, .iload_n 2), (92, .invokevirtual 125), (95, .ifCond .ge 18), (98, .aload_n 0), (99, .getfield 13), (102, .iload_n 1), (103, .iaload), (104, .bipush 6), (106, .if_icmp .ne 7), (109, .iconst 1), (110, .goto 4), (113, .iconst 0), (114, .invokevirtual 96), (117, .ifCond .eq 4), (120, .return_), (121, .iload 5), (123, .ifCond .eq 13), (126, .aload_n 0), (127, .iload_n 1)], [(128, .iload_n 2), (129, .iload_n 3), (130, .iload 4), (132, .invokevirtual 138), (135, .return_), (136, .aload_n 0), (137, .getfield 13), (140, .iload_n 1), (141, .iaload), (142, .iload_n 2), (143, .if_icmp .gt 33), (146, .aload_n 0), (147, .bipush 8), (149, .iload_n 1), (150, .imul), (151, .aload_n 0), (152, .getfield 13), (155, .iload_n 1), (156, .iaload), (157, .iadd), (158, .iconst (-1)), (159, .iconst 0), (160, .invokevirtual 131), (163, .aload_n 0), (164, .getfield 13), (167, .iload_n 1), (168, .dup2), (169, .iaload), (170, .iconst 1), (171, .iadd), (172, .iastore), (173, .goto (-37)), (176, .aload_n 0), (177, .bipush 8), (179, .iload_n 1), (180, .imul), (181, .iload_n 2), (182, .iadd), (183, .iload_n 3), (184, .iload 4), (186, .invokevirtual 131), (189, .return_)]])
def gx_e134 : gx_E := (⟨"CopiedGraphsModel", "isValue", "(II)Z"⟩, prog_9_method_6_code, (3, (Option.some Jvm.ClassFile.FieldType.boolean), []), (9, 1, 2, 7), [[(0, .iload_n 1), (1, .ifCond .lt 39), (4, .iload_n 1), (5, .bipush 8), (7, .if_icmp .ge 33), (10, .iload_n 1), (11, .iconst 5), (12, .if_icmp .ne 10), (15, .iload_n 2), (16, .invokestatic 89), (19, .ifCond .eq 21), (22, .iload_n 1), (23, .bipush 6), (25, .if_icmp .ne 11), (28, .aload_n 0), (29, .iload_n 2), (30, .invokevirtual 85), (33, .ifCond .eq 7), (36, .iconst 1), (37, .goto 4), (40, .iconst 0), (41, .ireturn)]])
def gx_e135 : gx_E := (⟨"CopiedGraphsModel", "isText", "(I)Z"⟩, prog_9_method_5_code, (5, (Option.some Jvm.ClassFile.FieldType.boolean), []), (9, 0, 1, 0), [[(0, .iconst 1), (1, .istore_n 1), (2, .iconst 1), (3, .istore_n 2), (4, .iconst 0), (5, .istore_n 3), (6, .iload_n 3), (7, .iconst 4), (8, .if_icmp .ge 55), (11, .iload_n 0), (12, .bipush 8), (14, .iload_n 3), (15, .imul), (16, .ishr), (17, .sipush 255), (20, .iand), (21, .istore 4), (23, .iload_n 2), (24, .ifCond .eq 16), (27, .iload_n 1), (28, .ifCond .ne 8), (31, .iload 4), (33, .ifCond .ne 7), (36, .iconst 1), (37, .goto 4), (40, .iconst 0), (41, .istore_n 2), (42, .iload_n 1), (43, .ifCond .eq 12), (46, .iload 4), (48, .ifCond .eq 7), (51, .iconst 1), (52, .goto 4), (55, .iconst 0), (56, .istore_n 1), (57, .iinc 3 1), (60, .goto (-54)), (63, .iload_n 2)], [(64, .ireturn)]])
def gx_e136 : gx_E := (⟨"CopiedGraphsModel", "slotOf", "(II)I"⟩, prog_9_method_18_code, (4, (Option.some Jvm.ClassFile.FieldType.int), []), (9, 1, 2, 7), [[(0, .iconst 0), (1, .istore_n 3), (2, .iload_n 3), (3, .aload_n 0), (4, .getfield 13), (7, .iload_n 1), (8, .iaload), (9, .if_icmp .ge 31), (12, .aload_n 0), (13, .getfield 24), (16, .bipush 8), (18, .iload_n 1), (19, .imul), (20, .iload_n 3), (21, .iadd), (22, .iaload), (23, .iload_n 2), (24, .if_icmp .ne 10), (27, .bipush 8), (29, .iload_n 1), (30, .imul), (31, .iload_n 3), (32, .iadd), (33, .ireturn), (34, .iinc 3 1), (37, .goto (-35)), (40, .iconst (-1)), (41, .ireturn)]])
def gx_e137 : gx_E := (⟨"CopiedGraphsModel", "setProperty", "(IIII)V"⟩, prog_9_method_20_code, (7, (Option.none : Option Jvm.ClassFile.FieldType), []), (9, 1, 4, 7), [[(0, .aload_n 0), (1, .iload_n 1), (2, .iload_n 2), (3, .invokevirtual 125), (6, .istore 5), (8, .iload 5), (10, .ifCond .ge 108), (13, .aload_n 0), (14, .getfield 13), (17, .iload_n 1), (18, .iaload), (19, .istore 6), (21, .iload_n 2), (22, .ifCond .lt 69), (25, .iload 6), (27, .ifCond .le 64), (30, .aload_n 0), (31, .getfield 24), (34, .bipush 8), (36, .iload_n 1), (37, .imul), (38, .iload 6), (40, .iadd), (41, .iconst 1), (42, .isub), (43, .iaload), (44, .ifCond .lt 21), (47, .aload_n 0), (48, .getfield 24), (51, .bipush 8), (53, .iload_n 1), (54, .imul), (55, .iload 6), (57, .iadd), (58, .iconst 1), (59, .isub), (60, .iaload), (61, .iload_n 2), (62, .if_icmp .le 29)], [(65, .iinc 6 (-1)), (68, .aload_n 0), (69, .bipush 8), (71, .iload_n 1), (72, .imul), (73, .iload 6), (75, .iadd), (76, .bipush 8), (78, .iload_n 1), (79, .imul), (80, .iload 6), (82, .iadd), (83, .iconst 1), (84, .iadd), (85, .invokevirtual 128), (88, .goto (-67)), (91, .bipush 8), (93, .iload_n 1), (94, .imul), (95, .iload 6), (97, .iadd), (98, .istore 5), (100, .aload_n 0), (101, .getfield 24), (104, .iload 5), (106, .iload_n 2), (107, .iastore), (108, .aload_n 0), (109, .getfield 13), (112, .iload_n 1), (113, .dup2), (114, .iaload), (115, .iconst 1), (116, .iadd), (117, .iastore), (118, .aload_n 0), (119, .iload 5), (121, .iload_n 3), (122, .iload 4), (124, .invokevirtual 131), (127, .return_)]])
def gx_e138 : gx_E := (⟨"CopiedGraphsModel", "copySlot", "(II)V"⟩, prog_9_method_21_code, (3, (Option.none : Option Jvm.ClassFile.FieldType), []), (9, 1, 2, 7), [[(0, .aload_n 0), (1, .getfield 24), (4, .iload_n 2), (5, .aload_n 0), (6, .getfield 24), (9, .iload_n 1), (10, .iaload), (11, .iastore), (12, .aload_n 0), (13, .getfield 30), (16, .iload_n 2), (17, .aload_n 0), (18, .getfield 30), (21, .iload_n 1), (22, .iaload), (23, .iastore), (24, .aload_n 0), (25, .getfield 33), (28, .iload_n 2), (29, .aload_n 0), (30, .getfield 33), (33, .iload_n 1), (34, .iaload), (35, .iastore), (36, .return_)]])
def gx_e139 : gx_E := (⟨"CopiedGraphsModel", "setSlot", "(III)V"⟩, prog_9_method_19_code, (4, (Option.none : Option Jvm.ClassFile.FieldType), []), (9, 1, 3, 7), [[(0, .aload_n 0), (1, .getfield 30), (4, .iload_n 1), (5, .iload_n 2), (6, .iastore), (7, .aload_n 0), (8, .getfield 33), (11, .iload_n 1), (12, .iload_n 2), (13, .iload_n 3), (14, .invokestatic 121), (17, .iastore), (18, .return_)]])
def gx_e140 : gx_E := (⟨"CopiedGraphsModel", "numberOf", "(II)I"⟩, prog_9_method_7_code, (2, (Option.some Jvm.ClassFile.FieldType.int), []), (9, 0, 2, 0), [[(0, .iload_n 0), (1, .iconst 4), (2, .if_icmp .ge 7), (5, .iconst 0), (6, .goto 4), (9, .iload_n 1), (10, .ireturn)]])
def gx_e141 : gx_E := (⟨"CopiedGraphsModel", "take", "(II)Z"⟩, prog_9_method_24_code, (5, (Option.some Jvm.ClassFile.FieldType.boolean), []), (9, 1, 2, 7), [[(0, .aload_n 0), (1, .iload_n 1), (2, .iconst 0), (3, .invokevirtual 109), (6, .istore_n 3), (7, .aload_n 0), (8, .iload_n 3), (9, .ifCond .ne 16), (12, .aload_n 0), (13, .iload_n 1), (14, .iconst 1), (15, .invokevirtual 109), (18, .ifCond .ne 7), (21, .iconst 1), (22, .goto 4), (25, .iconst 0), (26, .iconst 0), (27, .invokevirtual 96), (30, .ifCond .eq 5), (33, .iconst 0), (34, .ireturn), (35, .iload_n 3), (36, .ifCond .eq 10), (39, .aload_n 0), (40, .iload_n 1), (41, .iload_n 2), (42, .invokevirtual 142), (45, .ireturn), (46, .iload_n 2), (47, .ifCond .lt 32), (50, .iload_n 2), (51, .aload_n 0), (52, .getfield 13), (55, .iload_n 1), (56, .iaload), (57, .if_icmp .ge 22), (60, .aload_n 0), (61, .getfield 30)], [(64, .bipush 8), (66, .iload_n 1), (67, .imul), (68, .iload_n 2), (69, .iadd), (70, .iaload), (71, .iconst (-1)), (72, .if_icmp .eq 7), (75, .iconst 1), (76, .goto 4), (79, .iconst 0), (80, .istore 4), (82, .iload 4), (84, .ifCond .eq 15), (87, .aload_n 0), (88, .bipush 8), (90, .iload_n 1), (91, .imul), (92, .iload_n 2), (93, .iadd), (94, .iconst (-1)), (95, .iconst 0), (96, .invokevirtual 131), (99, .iload 4), (101, .ireturn)]])
def gx_e142 : gx_E := (⟨"CopiedGraphsModel", "takeProperty", "(II)Z"⟩, prog_9_method_22_code, (5, (Option.some Jvm.ClassFile.FieldType.boolean), []), (9, 1, 2, 7), [[(0, .aload_n 0), (1, .iload_n 1), (2, .iload_n 2), (3, .invokevirtual 125), (6, .istore_n 3), (7, .iload_n 3), (8, .ifCond .ge 5), (11, .iconst 0), (12, .ireturn), (13, .aload_n 0), (14, .getfield 13), (17, .iload_n 1), (18, .dup2), (19, .iaload), (20, .iconst 1), (21, .isub), (22, .iastore), (23, .iload_n 3), (24, .istore 4), (26, .iload 4), (28, .bipush 8), (30, .iload_n 1), (31, .imul), (32, .aload_n 0), (33, .getfield 13), (36, .iload_n 1), (37, .iaload), (38, .iadd), (39, .if_icmp .ge 19), (42, .aload_n 0), (43, .iload 4), (45, .iconst 1), (46, .iadd), (47, .iload 4), (49, .invokevirtual 128), (52, .iinc 4 1), (55, .goto (-29)), (58, .iconst 1), (59, .ireturn)]])
def gx_e143 : gx_E := (⟨"CopiedGraphsModel", "entry", "(IIIII)V"⟩, prog_9_method_27_code, (8, (Option.none : Option Jvm.ClassFile.FieldType), []), (9, 1, 5, 7), [[(0, .aload_n 0), (1, .iload_n 1), (2, .iconst 2), (3, .invokevirtual 109), (6, .ifCond .eq 27), (9, .aload_n 0), (10, .iload_n 2), (11, .iload_n 3), (12, .invokevirtual 135), (15, .ifCond .eq 18), (18, .aload_n 0), (19, .iload 4), (21, .iload 5), (23, .invokevirtual 135), (26, .ifCond .eq 7), (29, .iconst 1), (30, .goto 4), (33, .iconst 0), (34, .istore 6), (36, .iload 6), (38, .ifCond .eq 13), (41, .aload_n 0), (42, .iload_n 1), (43, .iload_n 2), (44, .iload_n 3), (45, .invokevirtual 145), (48, .goto 4), (51, .iconst (-1)), (52, .istore 7), (54, .aload_n 0), (55, .iload 6), (57, .ifCond .ne 7), (60, .iconst 1), (61, .goto 4)], [(64, .iconst 0), (65, .iload 6), (67, .ifCond .eq 22), (70, .iload 7), (72, .ifCond .ge 17), (75, .aload_n 0), (76, .getfield 13), (79, .iload_n 1), (80, .iaload), (81, .iconst 4), (82, .if_icmp .ne 7), (85, .iconst 1), (86, .goto 4), (89, .iconst 0), (90, .invokevirtual 96), (93, .ifCond .eq 4), (96, .return_), (97, .iload 7), (99, .ifCond .ge 51), (102, .aload_n 0), (103, .getfield 13), (106, .iload_n 1), (107, .iaload), (108, .istore 7), (110, .aload_n 0), (111, .getfield 13), (114, .iload_n 1), (115, .dup2), (116, .iaload), (117, .iconst 1), (118, .iadd), (119, .iastore), (120, .aload_n 0), (121, .getfield 27), (124, .bipush 8), (126, .iload_n 1), (127, .imul)], [(128, .iload 7), (130, .iadd), (131, .iload_n 2), (132, .iastore), (133, .aload_n 0), (134, .getfield 24), (137, .bipush 8), (139, .iload_n 1), (140, .imul), (141, .iload 7), (143, .iadd), (144, .iload_n 2), (145, .iload_n 3), (146, .invokestatic 121), (149, .iastore), (150, .aload_n 0), (151, .bipush 8), (153, .iload_n 1), (154, .imul), (155, .iload 7), (157, .iadd), (158, .iload 4), (160, .iload 5), (162, .invokevirtual 131), (165, .return_)]])
def gx_e144 : gx_E := (⟨"CopiedGraphsModel", "entryOf", "(III)I"⟩, prog_9_method_25_code, (5, (Option.some Jvm.ClassFile.FieldType.int), []), (9, 1, 3, 7), [[(0, .iconst 0), (1, .istore 4), (3, .iload 4), (5, .aload_n 0), (6, .getfield 13), (9, .iload_n 1), (10, .iaload), (11, .if_icmp .ge 48), (14, .aload_n 0), (15, .getfield 27), (18, .bipush 8), (20, .iload_n 1), (21, .imul), (22, .iload 4), (24, .iadd), (25, .iaload), (26, .iload_n 2), (27, .if_icmp .ne 26), (30, .aload_n 0), (31, .getfield 24), (34, .bipush 8), (36, .iload_n 1), (37, .imul), (38, .iload 4), (40, .iadd), (41, .iaload), (42, .iload_n 2), (43, .iload_n 3), (44, .invokestatic 121), (47, .if_icmp .ne 6), (50, .iload 4), (52, .ireturn), (53, .iinc 4 1), (56, .goto (-53)), (59, .iconst (-1)), (60, .ireturn)]])
def gx_e145 : gx_E := (⟨"CopiedGraphsModel", "add", "(III)Z"⟩, prog_9_method_28_code, (6, (Option.some Jvm.ClassFile.FieldType.boolean), []), (9, 1, 3, 7), [[(0, .aload_n 0), (1, .iload_n 1), (2, .iconst 3), (3, .invokevirtual 109), (6, .ifCond .eq 16), (9, .aload_n 0), (10, .iload_n 2), (11, .iload_n 3), (12, .invokevirtual 135), (15, .ifCond .eq 7), (18, .iconst 1), (19, .goto 4), (22, .iconst 0), (23, .istore 4), (25, .iload 4), (27, .ifCond .eq 17), (30, .aload_n 0), (31, .iload_n 1), (32, .iload_n 2), (33, .iload_n 3), (34, .invokevirtual 149), (37, .ifCond .eq 7), (40, .iconst 1), (41, .goto 4), (44, .iconst 0), (45, .istore 5), (47, .aload_n 0), (48, .iload 4), (50, .ifCond .ne 7), (53, .iconst 1), (54, .goto 4), (57, .iconst 0), (58, .iload 4), (60, .ifCond .eq 22), (63, .iload 5)], [(65, .ifCond .ne 17), (68, .aload_n 0), (69, .getfield 13), (72, .iload_n 1), (73, .iaload), (74, .iconst 5), (75, .if_icmp .ne 7), (78, .iconst 1), (79, .goto 4), (82, .iconst 0), (83, .invokevirtual 96), (86, .ifCond .ne 8), (89, .iload 5), (91, .ifCond .eq 5), (94, .iconst 0), (95, .ireturn), (96, .aload_n 0), (97, .bipush 8), (99, .iload_n 1), (100, .imul), (101, .aload_n 0), (102, .getfield 13), (105, .iload_n 1), (106, .iaload), (107, .iadd), (108, .iload_n 2), (109, .iload_n 3), (110, .invokevirtual 131), (113, .aload_n 0), (114, .getfield 13), (117, .iload_n 1), (118, .dup2), (119, .iaload), (120, .iconst 1), (121, .iadd), (122, .iastore), (123, .iconst 1), (124, .ireturn)]])
def gx_e146 : gx_E := (⟨"CopiedGraphsModel", "hasMember", "(III)Z"⟩, prog_9_method_26_code, (6, (Option.some Jvm.ClassFile.FieldType.boolean), []), (9, 1, 3, 7), [[(0, .iconst 0), (1, .istore 4), (3, .iconst 0), (4, .istore 5), (6, .iload 5), (8, .aload_n 0), (9, .getfield 13), (12, .iload_n 1), (13, .iaload), (14, .if_icmp .ge 57), (17, .iload 4), (19, .ifCond .ne 39), (22, .aload_n 0), (23, .getfield 30), (26, .bipush 8), (28, .iload_n 1), (29, .imul), (30, .iload 5), (32, .iadd), (33, .iaload), (34, .iload_n 2), (35, .if_icmp .ne 27), (38, .aload_n 0), (39, .getfield 33), (42, .bipush 8), (44, .iload_n 1), (45, .imul), (46, .iload 5), (48, .iadd), (49, .iaload), (50, .iload_n 2), (51, .iload_n 3), (52, .invokestatic 121), (55, .if_icmp .ne 7), (58, .iconst 1), (59, .goto 4), (62, .iconst 0), (63, .istore 4)], [(65, .iinc 5 1), (68, .goto (-62)), (71, .iload 4), (73, .ireturn)]])
def gx_e147 : gx_E := (⟨"CopiedGraphsModel", "detach", "(I)Z"⟩, prog_9_method_30_code, (3, (Option.some Jvm.ClassFile.FieldType.boolean), []), (9, 1, 1, 7), [[(0, .aload_n 0), (1, .iconst 0), (2, .putfield 78), (5, .aload_n 0), (6, .iload_n 1), (7, .iconst 4), (8, .invokevirtual 109), (11, .ifCond .eq 16), (14, .aload_n 0), (15, .getfield 16), (18, .iload_n 1), (19, .baload), (20, .ifCond .ne 7), (23, .iconst 1), (24, .goto 4), (27, .iconst 0), (28, .istore_n 2), (29, .iload_n 2), (30, .ifCond .eq 8), (33, .aload_n 0), (34, .iload_n 1), (35, .invokevirtual 153), (38, .iload_n 2), (39, .ireturn)]])
def gx_e148 : gx_E := (⟨"CopiedGraphsModel", "detachNow", "(I)V"⟩, prog_9_method_29_code, (2, (Option.none : Option Jvm.ClassFile.FieldType), []), (9, 1, 1, 7), [[(0, .aload_n 0), (1, .getfield 16), (4, .iload_n 1), (5, .iconst 1), (6, .bastore), (7, .aload_n 0), (8, .getfield 13), (11, .iload_n 1), (12, .iconst 0), (13, .iastore), (14, .return_)]])
def gx_e149 : gx_E := (⟨"CopiedGraphsModel", "clear", "()I"⟩, prog_9_method_31_code, (2, (Option.some Jvm.ClassFile.FieldType.int), []), (9, 1, 0, 7), [[(0, .aload_n 0), (1, .iconst 0), (2, .putfield 78), (5, .aload_n 0), (6, .getfield 82), (9, .istore_n 1), (10, .aload_n 0), (11, .iconst 0), (12, .putfield 82), (15, .aload_n 0), (16, .iconst 0), (17, .putfield 157), (20, .aload_n 0), (21, .iconst 0), (22, .putfield 160), (25, .iload_n 1), (26, .ireturn)]])
def gx_e150 : gx_E := (⟨"CopiedGraphsModel", "objects", "()I"⟩, prog_9_method_32_code, (1, (Option.some Jvm.ClassFile.FieldType.int), []), (9, 1, 0, 7), [[(0, .aload_n 0), (1, .iconst 0), (2, .putfield 78), (5, .aload_n 0), (6, .getfield 82), (9, .ireturn)]])
def gx_e151 : gx_E := (⟨"CopiedGraphsModel", "type", "(I)I"⟩, prog_9_method_33_code, (2, (Option.some Jvm.ClassFile.FieldType.int), []), (9, 1, 1, 7), [[(0, .aload_n 0), (1, .iconst 0), (2, .putfield 78), (5, .aload_n 0), (6, .iload_n 1), (7, .invokevirtual 85), (10, .ifCond .eq 12), (13, .aload_n 0), (14, .getfield 7), (17, .iload_n 1), (18, .iaload), (19, .goto 4), (22, .iconst (-1)), (23, .ireturn)]])
def gx_e152 : gx_E := (⟨"CopiedGraphsModel", "size", "(I)I"⟩, prog_9_method_34_code, (3, (Option.some Jvm.ClassFile.FieldType.int), []), (9, 1, 1, 7), [[(0, .aload_n 0), (1, .iconst 0), (2, .putfield 78), (5, .aload_n 0), (6, .iload_n 1), (7, .invokevirtual 85), (10, .ifCond .eq 27), (13, .aload_n 0), (14, .getfield 7), (17, .iload_n 1), (18, .iaload), (19, .bipush 6), (21, .if_icmp .ge 16), (24, .aload_n 0), (25, .getfield 16), (28, .iload_n 1), (29, .baload), (30, .ifCond .ne 7), (33, .iconst 1), (34, .goto 4), (37, .iconst 0), (38, .istore_n 2), (39, .iload_n 2), (40, .ifCond .eq 12), (43, .aload_n 0), (44, .getfield 13), (47, .iload_n 1), (48, .iaload), (49, .goto 4), (52, .iconst (-1)), (53, .ireturn)]])
def gx_e153 : gx_E := (⟨"CopiedGraphsModel", "get", "(III)J"⟩, prog_9_method_35_code, (8, (Option.some Jvm.ClassFile.FieldType.long), []), (9, 1, 3, 7), [[(0, .aload_n 0), (1, .iload_n 1), (2, .invokevirtual 85), (5, .ifCond .eq 16), (8, .iload_n 3), (9, .ifCond .lt 12), (12, .iload_n 3), (13, .iconst 4), (14, .if_icmp .ge 7), (17, .iconst 1), (18, .goto 4), (21, .iconst 0), (22, .istore 4), (24, .iload 4), (26, .ifCond .eq 12), (29, .aload_n 0), (30, .getfield 7), (33, .iload_n 1), (34, .iaload), (35, .goto 5), (38, .bipush 7), (40, .istore 5), (42, .iload 5), (44, .iconst 5), (45, .if_icmp .ne 17), (48, .iload_n 2), (49, .ifCond .ne 7), (52, .iconst 1), (53, .goto 4), (56, .iconst 0), (57, .istore 4), (59, .goto 71), (62, .iload 5)], [(64, .bipush 6), (66, .if_icmp .ne 21), (69, .iload_n 2), (70, .ifCond .ne 11), (73, .iload_n 3), (74, .ifCond .ne 7), (77, .iconst 1), (78, .goto 4), (81, .iconst 0), (82, .istore 4), (84, .goto 46), (87, .iload 4), (89, .ifCond .eq 38), (92, .iload 5), (94, .iconst 5), (95, .if_icmp .ge 32), (98, .iload_n 2), (99, .ifCond .lt 28), (102, .iload_n 2), (103, .aload_n 0), (104, .getfield 13), (107, .iload_n 1), (108, .iaload), (109, .if_icmp .ge 18), (112, .iload_n 3), (113, .iconst 3), (114, .if_icmp .lt 9), (117, .iload 5), (119, .iconst 2), (120, .if_icmp .ne 7), (123, .iconst 1), (124, .goto 4), (127, .iconst 0)], [(128, .istore 4), (130, .aload_n 0), (131, .iload 4), (133, .ifCond .ne 7), (136, .iconst 1), (137, .goto 4), (140, .iconst 0), (141, .iconst 0), (142, .invokevirtual 96), (145, .ifCond .eq 5), (148, .lconst 0), (149, .lreturn), (150, .bipush 8), (152, .iload_n 1), (153, .imul), (154, .iload_n 2), (155, .iadd), (156, .istore 6), (158, .iload 5), (160, .iconst 5), (161, .if_icmp .ne 14), (164, .aload_n 0), (165, .getfield 33), (168, .iload 6), (170, .iload_n 3), (171, .iadd), (172, .iaload), (173, .i2l), (174, .lreturn), (175, .iload 5), (177, .bipush 6), (179, .if_icmp .ne 10), (182, .aload_n 0), (183, .getfield 20), (186, .iload_n 1), (187, .laload), (188, .lreturn), (189, .iload 5), (191, .ifCond .eq 9)], [(194, .iload 5), (196, .iconst 2), (197, .if_icmp .ne 7), (200, .iconst 1), (201, .goto 4), (204, .iconst 0), (205, .istore 7), (207, .iload_n 3), (208, .ifCond .ne 24), (211, .iload 7), (213, .ifCond .eq 14), (216, .aload_n 0), (217, .getfield 24), (220, .iload 6), (222, .iaload), (223, .i2l), (224, .goto 60), (227, .iload_n 2), (228, .i2l), (229, .goto 55), (232, .iload_n 3), (233, .iconst 1), (234, .if_icmp .ne 26), (237, .iload 5), (239, .iconst 4), (240, .if_icmp .ne 9), (243, .ldc2_w 163), (246, .goto 38), (249, .aload_n 0), (250, .getfield 30), (253, .iload 6), (255, .iaload)], [(256, .i2l), (257, .goto 27), (260, .iload_n 3), (261, .iconst 2), (262, .if_icmp .ne 14), (265, .aload_n 0), (266, .getfield 33), (269, .iload 6), (271, .iaload), (272, .i2l), (273, .goto 11), (276, .aload_n 0), (277, .getfield 27), (280, .iload 6), (282, .iaload), (283, .i2l), (284, .lreturn)]])
def gx_e154 : gx_E := (⟨"CopiedGraphsModel", "pass", "(I)I"⟩, prog_9_method_36_code, (2, (Option.some Jvm.ClassFile.FieldType.int), []), (9, 1, 1, 7), [[(0, .aload_n 0), (1, .aload_n 0), (2, .iload_n 1), (3, .invokevirtual 85), (6, .ifCond .ne 7), (9, .iconst 1), (10, .goto 4), (13, .iconst 0), (14, .aload_n 0), (15, .getfield 160), (18, .iconst 4), (19, .if_icmp .ne 7), (22, .iconst 1), (23, .goto 4), (26, .iconst 0), (27, .invokevirtual 96), (30, .ifCond .eq 5), (33, .iconst 0), (34, .ireturn), (35, .aload_n 0), (36, .getfield 36), (39, .aload_n 0), (40, .getfield 160), (43, .iload_n 1), (44, .iastore), (45, .aload_n 0), (46, .dup), (47, .getfield 160), (50, .iconst 1), (51, .iadd), (52, .putfield 160), (55, .aload_n 0), (56, .getfield 160), (59, .ireturn)]])
def gx_e155 : gx_E := (⟨"CopiedGraphsModel", "holders", "()I"⟩, prog_9_method_37_code, (1, (Option.some Jvm.ClassFile.FieldType.int), []), (9, 1, 0, 7), [[(0, .aload_n 0), (1, .iconst 0), (2, .putfield 78), (5, .aload_n 0), (6, .getfield 157), (9, .ireturn)]])
def gx_e156 : gx_E := (⟨"CopiedGraphsModel", "write", "(II)I"⟩, prog_9_method_52_code, (4, (Option.some Jvm.ClassFile.FieldType.int), []), (9, 1, 2, 7), [[(0, .aload_n 0), (1, .aload_n 0), (2, .iload_n 1), (3, .iload_n 2), (4, .invokevirtual 135), (7, .ifCond .eq 14), (10, .aload_n 0), (11, .invokevirtual 214), (14, .ifCond .eq 7), (17, .iconst 0), (18, .goto 4), (21, .iconst 1), (22, .putfield 168), (25, .aload_n 0), (26, .iconst 0), (27, .putfield 171), (30, .aload_n 0), (31, .iconst 0), (32, .putfield 182), (35, .aload_n 0), (36, .iconst 0), (37, .putfield 179), (40, .iconst 0), (41, .istore_n 3), (42, .iload_n 3), (43, .bipush 32), (45, .if_icmp .ge 16), (48, .aload_n 0), (49, .getfield 72), (52, .iload_n 3), (53, .iconst (-1)), (54, .iastore), (55, .iinc 3 1), (58, .goto (-16)), (61, .aload_n 0), (62, .getfield 168)], [(65, .ifCond .ne 15), (68, .aload_n 0), (69, .bipush 15), (71, .invokevirtual 176), (74, .aload_n 0), (75, .iload_n 1), (76, .iload_n 2), (77, .invokevirtual 208), (80, .aload_n 0), (81, .getfield 168), (84, .ifCond .ne 17), (87, .aload_n 0), (88, .getfield 179), (91, .ifCond .le 10), (94, .aload_n 0), (95, .invokevirtual 218), (98, .goto (-18)), (101, .iconst 0), (102, .istore_n 3), (103, .iload_n 3), (104, .aload_n 0), (105, .getfield 160), (108, .if_icmp .ge 39), (111, .aload_n 0), (112, .getfield 168), (115, .ifCond .ne 32), (118, .aload_n 0), (119, .aload_n 0), (120, .getfield 16), (123, .aload_n 0), (124, .getfield 36), (127, .iload_n 3)], [(128, .iaload), (129, .baload), (130, .ifCond .eq 7), (133, .iconst 1), (134, .goto 4), (137, .iconst 0), (138, .putfield 168), (141, .iinc 3 1), (144, .goto (-41)), (147, .aload_n 0), (148, .getfield 168), (151, .ifCond .ne 43), (154, .aload_n 0), (155, .invokevirtual 221), (158, .aload_n 0), (159, .aload_n 0), (160, .getfield 171), (163, .putfield 224), (166, .iconst 0), (167, .istore_n 3), (168, .iload_n 3), (169, .aload_n 0), (170, .getfield 171), (173, .if_icmp .ge 21), (176, .aload_n 0), (177, .getfield 45), (180, .iload_n 3), (181, .aload_n 0), (182, .getfield 69), (185, .iload_n 3), (186, .iaload), (187, .iastore), (188, .iinc 3 1), (191, .goto (-23))], [(194, .aload_n 0), (195, .iconst 0), (196, .putfield 160), (199, .aload_n 0), (200, .aload_n 0), (201, .getfield 168), (204, .putfield 78), (207, .aload_n 0), (208, .getfield 168), (211, .ifCond .ne 10), (214, .aload_n 0), (215, .getfield 224), (218, .goto 4), (221, .iconst 0), (222, .ireturn)]])
def gx_e157 : gx_E := (⟨"CopiedGraphsModel", "canPass", "()Z"⟩, prog_9_method_39_code, (3, (Option.some Jvm.ClassFile.FieldType.boolean), []), (9, 1, 0, 7), [[(0, .iconst 1), (1, .istore_n 1), (2, .iconst 0), (3, .istore_n 2), (4, .iload_n 2), (5, .aload_n 0), (6, .getfield 160), (9, .if_icmp .ge 62), (12, .iload_n 1), (13, .ifCond .eq 50), (16, .aload_n 0), (17, .getfield 7), (20, .aload_n 0), (21, .getfield 36), (24, .iload_n 2), (25, .iaload), (26, .iaload), (27, .iconst 4), (28, .if_icmp .ne 35), (31, .aload_n 0), (32, .getfield 16), (35, .aload_n 0), (36, .getfield 36), (39, .iload_n 2), (40, .iaload), (41, .baload), (42, .ifCond .ne 21), (45, .aload_n 0), (46, .aload_n 0), (47, .getfield 36), (50, .iload_n 2), (51, .iaload), (52, .invokevirtual 165), (55, .iload_n 2), (56, .if_icmp .ne 7), (59, .iconst 1), (60, .goto 4), (63, .iconst 0)], [(64, .istore_n 1), (65, .iinc 2 1), (68, .goto (-64)), (71, .iload_n 1), (72, .ireturn)]])
def gx_e158 : gx_E := (⟨"CopiedGraphsModel", "passOf", "(I)I"⟩, prog_9_method_38_code, (3, (Option.some Jvm.ClassFile.FieldType.int), []), (9, 1, 1, 7), [[(0, .iconst 0), (1, .istore_n 2), (2, .iload_n 2), (3, .aload_n 0), (4, .getfield 160), (7, .if_icmp .ge 21), (10, .aload_n 0), (11, .getfield 36), (14, .iload_n 2), (15, .iaload), (16, .iload_n 1), (17, .if_icmp .ne 5), (20, .iload_n 2), (21, .ireturn), (22, .iinc 2 1), (25, .goto (-23)), (28, .iconst (-1)), (29, .ireturn)]])
def gx_e159 : gx_E := (⟨"CopiedGraphsModel", "say", "(I)V"⟩, prog_9_method_40_code, (2, (Option.none : Option Jvm.ClassFile.FieldType), []), (9, 1, 1, 7), [[(0, .aload_n 0), (1, .getfield 168), (4, .ifCond .ne 18), (7, .aload_n 0), (8, .getfield 171), (11, .sipush 300), (14, .if_icmp .ne 8), (17, .aload_n 0), (18, .iconst 1), (19, .putfield 168), (22, .aload_n 0), (23, .getfield 168), (26, .ifCond .ne 23), (29, .aload_n 0), (30, .getfield 69), (33, .aload_n 0), (34, .getfield 171), (37, .iload_n 1), (38, .iastore), (39, .aload_n 0), (40, .dup), (41, .getfield 171), (44, .iconst 1), (45, .iadd), (46, .putfield 171), (49, .return_)]])
def gx_e160 : gx_E := (⟨"CopiedGraphsModel", "sayValue", "(II)V"⟩, prog_9_method_46_code, (4, (Option.none : Option Jvm.ClassFile.FieldType), []), (9, 1, 2, 7), [[(0, .aload_n 0), (1, .getfield 179), (4, .iconst 1), (5, .iadd), (6, .bipush 12), (8, .if_icmp .gt 9), (11, .iload_n 1), (12, .bipush 7), (14, .if_icmp .ne 11), (17, .aload_n 0), (18, .iconst 1), (19, .putfield 168), (22, .goto 150), (25, .iload_n 1), (26, .iconst 4), (27, .if_icmp .ge 11), (30, .aload_n 0), (31, .iload_n 1), (32, .invokevirtual 176), (35, .goto 137), (38, .iload_n 1), (39, .iconst 4), (40, .if_icmp .ne 20), (43, .aload_n 0), (44, .iconst 4), (45, .invokevirtual 176), (48, .aload_n 0), (49, .iload_n 2), (50, .i2l), (51, .invokestatic 185), (54, .invokevirtual 189), (57, .goto 115), (60, .iload_n 1), (61, .iconst 5), (62, .if_icmp .ne 49)], [(65, .aload_n 0), (66, .iconst 5), (67, .invokevirtual 176), (70, .aload_n 0), (71, .iload_n 2), (72, .invokestatic 193), (75, .invokevirtual 176), (78, .iconst 0), (79, .istore_n 3), (80, .iload_n 3), (81, .iload_n 2), (82, .invokestatic 193), (85, .if_icmp .ge 23), (88, .aload_n 0), (89, .iload_n 2), (90, .bipush 8), (92, .iload_n 3), (93, .imul), (94, .ishr), (95, .sipush 255), (98, .iand), (99, .invokevirtual 176), (102, .iinc 3 1), (105, .goto (-25)), (108, .goto 64), (111, .aload_n 0), (112, .getfield 72), (115, .iload_n 2), (116, .iaload), (117, .ifCond .lt 23), (120, .aload_n 0), (121, .bipush 6), (123, .invokevirtual 176), (126, .aload_n 0), (127, .aload_n 0)], [(128, .getfield 72), (131, .iload_n 2), (132, .iaload), (133, .i2l), (134, .invokevirtual 189), (137, .goto 35), (140, .aload_n 0), (141, .iload_n 2), (142, .invokevirtual 165), (145, .ifCond .lt 22), (148, .aload_n 0), (149, .bipush 7), (151, .invokevirtual 176), (154, .aload_n 0), (155, .aload_n 0), (156, .iload_n 2), (157, .invokevirtual 165), (160, .i2l), (161, .invokevirtual 189), (164, .goto 8), (167, .aload_n 0), (168, .iload_n 2), (169, .invokevirtual 196), (172, .return_)]])
def gx_e161 : gx_E := (⟨"CopiedGraphsModel", "zigzag", "(J)J"⟩, prog_9_method_42_code, (2, (Option.some Jvm.ClassFile.FieldType.long), []), (9, 0, 1, 0), [[(0, .lload_n 0), (1, .iconst 1), (2, .lshl), (3, .lload_n 0), (4, .bipush 63), (6, .lshr), (7, .lxor), (8, .lreturn)]])
def gx_e162 : gx_E := (⟨"CopiedGraphsModel", "sayLengthy", "(J)V"⟩, prog_9_method_41_code, (8, (Option.none : Option Jvm.ClassFile.FieldType), []), (9, 1, 1, 7), [[(0, .lload_n 1), (1, .lstore_n 3), (2, .iconst 1), (3, .istore 5), (5, .iload 5), (7, .ifCond .eq 54), (10, .lload_n 3), (11, .bipush 7), (13, .lushr), (14, .lstore 6), (16, .aload_n 0), (17, .lload_n 3), (18, .ldc2_w 174), (21, .land), (22, .l2i), (23, .lload 6), (25, .lconst 0), (26, .lcmp), (27, .ifCond .eq 9), (30, .sipush 128), (33, .goto 4), (36, .iconst 0), (37, .iadd), (38, .invokevirtual 176), (41, .lload 6), (43, .lconst 0), (44, .lcmp), (45, .ifCond .eq 7), (48, .iconst 1), (49, .goto 4), (52, .iconst 0), (53, .istore 5), (55, .lload 6), (57, .lstore_n 3), (58, .goto (-53)), (61, .return_)]])
def gx_e163 : gx_E := (⟨"CopiedGraphsModel", "textLength", "(I)I"⟩, prog_9_method_43_code, (2, (Option.some Jvm.ClassFile.FieldType.int), []), (9, 0, 1, 0), [[(0, .iconst 0), (1, .istore_n 1), (2, .iload_n 1), (3, .iconst 4), (4, .if_icmp .ge 22), (7, .iload_n 0), (8, .bipush 8), (10, .iload_n 1), (11, .imul), (12, .ishr), (13, .sipush 255), (16, .iand), (17, .ifCond .eq 9), (20, .iinc 1 1), (23, .goto (-21)), (26, .iload_n 1), (27, .ireturn)]])
def gx_e164 : gx_E := (⟨"CopiedGraphsModel", "sayObject", "(I)V"⟩, prog_9_method_47_code, (4, (Option.none : Option Jvm.ClassFile.FieldType), []), (9, 1, 1, 7), [[(0, .aload_n 0), (1, .getfield 7), (4, .iload_n 1), (5, .iaload), (6, .istore_n 2), (7, .iload_n 2), (8, .bipush 7), (10, .if_icmp .eq 17), (13, .iload_n 2), (14, .iconst 4), (15, .if_icmp .ne 18), (18, .aload_n 0), (19, .getfield 16), (22, .iload_n 1), (23, .baload), (24, .ifCond .eq 9), (27, .aload_n 0), (28, .iconst 1), (29, .putfield 168), (32, .return_), (33, .aload_n 0), (34, .bipush 8), (36, .iload_n 2), (37, .iadd), (38, .invokevirtual 176), (41, .iload_n 2), (42, .iconst 5), (43, .if_icmp .ne 38), (46, .iconst 1), (47, .istore_n 3), (48, .iload_n 3), (49, .iconst 4), (50, .if_icmp .ge 24), (53, .aload_n 0), (54, .aload_n 0), (55, .getfield 33), (58, .bipush 8), (60, .iload_n 1), (61, .imul), (62, .iload_n 3), (63, .iadd)], [(64, .iaload), (65, .invokevirtual 176), (68, .iinc 3 1), (71, .goto (-23)), (74, .aload_n 0), (75, .iload_n 1), (76, .iconst 1), (77, .invokevirtual 199), (80, .return_), (81, .aload_n 0), (82, .iload_n 1), (83, .invokevirtual 202), (86, .iload_n 2), (87, .bipush 6), (89, .if_icmp .ne 17), (92, .aload_n 0), (93, .aload_n 0), (94, .getfield 20), (97, .iload_n 1), (98, .laload), (99, .invokestatic 185), (102, .invokevirtual 189), (105, .return_), (106, .iload_n 2), (107, .ifCond .eq 13), (110, .aload_n 0), (111, .aload_n 0), (112, .getfield 13), (115, .iload_n 1), (116, .iaload), (117, .invokevirtual 176), (120, .iconst 0), (121, .istore_n 3), (122, .iload_n 3), (123, .aload_n 0), (124, .getfield 13), (127, .iload_n 1)], [(128, .iaload), (129, .if_icmp .ge 29), (132, .iload_n 2), (133, .iconst 4), (134, .if_icmp .ne 24), (137, .aload_n 0), (138, .aload_n 0), (139, .getfield 33), (142, .bipush 8), (144, .iload_n 1), (145, .imul), (146, .iload_n 3), (147, .iadd), (148, .iaload), (149, .invokevirtual 176), (152, .iinc 3 1), (155, .goto (-33)), (158, .iload_n 2), (159, .iconst 4), (160, .if_icmp .eq 77), (163, .iconst 0), (164, .istore_n 3), (165, .iload_n 3), (166, .aload_n 0), (167, .getfield 13), (170, .iload_n 1), (171, .iaload), (172, .if_icmp .ge 38), (175, .iload_n 2), (176, .ifCond .ne 34), (179, .aload_n 0), (180, .getfield 57), (183, .bipush 6), (185, .aload_n 0), (186, .getfield 179), (189, .imul), (190, .iload_n 3), (191, .iadd)], [(192, .aload_n 0), (193, .getfield 24), (196, .bipush 8), (198, .iload_n 1), (199, .imul), (200, .iload_n 3), (201, .iadd), (202, .iaload), (203, .iastore), (204, .iinc 3 1), (207, .goto (-42)), (210, .aload_n 0), (211, .iload_n 1), (212, .iload_n 2), (213, .iconst 2), (214, .if_icmp .ne 14), (217, .iconst 2), (218, .aload_n 0), (219, .getfield 13), (222, .iload_n 1), (223, .iaload), (224, .imul), (225, .goto 9), (228, .aload_n 0), (229, .getfield 13), (232, .iload_n 1), (233, .iaload), (234, .invokevirtual 199), (237, .return_)]])
def gx_e165 : gx_E := (⟨"CopiedGraphsModel", "push", "(II)V"⟩, prog_9_method_44_code, (3, (Option.none : Option Jvm.ClassFile.FieldType), []), (9, 1, 2, 7), [[(0, .aload_n 0), (1, .getfield 48), (4, .aload_n 0), (5, .getfield 179), (8, .iload_n 1), (9, .iastore), (10, .aload_n 0), (11, .getfield 51), (14, .aload_n 0), (15, .getfield 179), (18, .iconst 0), (19, .iastore), (20, .aload_n 0), (21, .getfield 54), (24, .aload_n 0), (25, .getfield 179), (28, .iload_n 2), (29, .iastore), (30, .aload_n 0), (31, .dup), (32, .getfield 179), (35, .iconst 1), (36, .iadd), (37, .putfield 179), (40, .return_)]])
def gx_e166 : gx_E := (⟨"CopiedGraphsModel", "getPlace", "(I)V"⟩, prog_9_method_45_code, (2, (Option.none : Option Jvm.ClassFile.FieldType), []), (9, 1, 1, 7), [[(0, .aload_n 0), (1, .getfield 72), (4, .iload_n 1), (5, .aload_n 0), (6, .getfield 182), (9, .iastore), (10, .aload_n 0), (11, .dup), (12, .getfield 182), (15, .iconst 1), (16, .iadd), (17, .putfield 182), (20, .return_)]])
def gx_e167 : gx_E := (⟨"CopiedGraphsModel", "sayNext", "()V"⟩, prog_9_method_50_code, (6, (Option.none : Option Jvm.ClassFile.FieldType), []), (9, 1, 0, 7), [[(0, .aload_n 0), (1, .getfield 179), (4, .iconst 1), (5, .isub), (6, .istore_n 1), (7, .aload_n 0), (8, .getfield 48), (11, .iload_n 1), (12, .iaload), (13, .istore_n 2), (14, .aload_n 0), (15, .getfield 51), (18, .iload_n 1), (19, .iaload), (20, .istore_n 3), (21, .aload_n 0), (22, .getfield 7), (25, .iload_n 2), (26, .iaload), (27, .istore 4), (29, .iload_n 3), (30, .aload_n 0), (31, .getfield 54), (34, .iload_n 1), (35, .iaload), (36, .if_icmp .ne 38), (39, .iload 4), (41, .ifCond .ne 11), (44, .aload_n 0), (45, .iconst 0), (46, .invokevirtual 176), (49, .goto 14), (52, .iload 4), (54, .iconst 5), (55, .if_icmp .ne 8), (58, .aload_n 0), (59, .iload_n 2), (60, .invokevirtual 202), (63, .aload_n 0)], [(64, .dup), (65, .getfield 179), (68, .iconst 1), (69, .isub), (70, .putfield 179), (73, .return_), (74, .aload_n 0), (75, .getfield 51), (78, .iload_n 1), (79, .dup2), (80, .iaload), (81, .iconst 1), (82, .iadd), (83, .iastore), (84, .iload 4), (86, .ifCond .ne 22), (89, .aload_n 0), (90, .iload_n 2), (91, .aload_n 0), (92, .getfield 57), (95, .bipush 6), (97, .iload_n 1), (98, .imul), (99, .iload_n 3), (100, .iadd), (101, .iaload), (102, .invokevirtual 211), (105, .goto 203), (108, .iload 4), (110, .iconst 5), (111, .if_icmp .ne 21), (114, .aload_n 0), (115, .bipush 6), (117, .aload_n 0), (118, .getfield 33), (121, .bipush 8), (123, .iload_n 2), (124, .imul), (125, .iaload), (126, .invokevirtual 208)], [(129, .goto 179), (132, .iload 4), (134, .iconst 2), (135, .if_icmp .ne 66), (138, .bipush 8), (140, .iload_n 2), (141, .imul), (142, .iload_n 3), (143, .iconst 2), (144, .idiv), (145, .iadd), (146, .istore 5), (148, .aload_n 0), (149, .iload_n 3), (150, .iconst 2), (151, .irem), (152, .ifCond .ne 13), (155, .aload_n 0), (156, .getfield 27), (159, .iload 5), (161, .iaload), (162, .goto 10), (165, .aload_n 0), (166, .getfield 30), (169, .iload 5), (171, .iaload), (172, .iload_n 3), (173, .iconst 2), (174, .irem), (175, .ifCond .ne 13), (178, .aload_n 0), (179, .getfield 24), (182, .iload 5), (184, .iaload), (185, .goto 10), (188, .aload_n 0), (189, .getfield 33)], [(192, .iload 5), (194, .iaload), (195, .invokevirtual 208), (198, .goto 110), (201, .iload 4), (203, .iconst 3), (204, .if_icmp .ne 32), (207, .aload_n 0), (208, .aload_n 0), (209, .getfield 30), (212, .bipush 8), (214, .iload_n 2), (215, .imul), (216, .iload_n 3), (217, .iadd), (218, .iaload), (219, .aload_n 0), (220, .getfield 33), (223, .bipush 8), (225, .iload_n 2), (226, .imul), (227, .iload_n 3), (228, .iadd), (229, .iaload), (230, .invokevirtual 208), (233, .goto 75), (236, .aload_n 0), (237, .aload_n 0), (238, .getfield 30), (241, .bipush 8), (243, .iload_n 2), (244, .imul), (245, .iload_n 3), (246, .iadd), (247, .iaload), (248, .iconst (-1)), (249, .if_icmp .ne 7), (252, .iconst 0), (253, .goto 4)], [(256, .iconst 1), (257, .invokevirtual 176), (260, .aload_n 0), (261, .getfield 30), (264, .bipush 8), (266, .iload_n 2), (267, .imul), (268, .iload_n 3), (269, .iadd), (270, .iaload), (271, .iconst (-1)), (272, .if_icmp .eq 36), (275, .aload_n 0), (276, .getfield 168), (279, .ifCond .ne 29), (282, .aload_n 0), (283, .aload_n 0), (284, .getfield 30), (287, .bipush 8), (289, .iload_n 2), (290, .imul), (291, .iload_n 3), (292, .iadd), (293, .iaload), (294, .aload_n 0), (295, .getfield 33), (298, .bipush 8), (300, .iload_n 2), (301, .imul), (302, .iload_n 3), (303, .iadd), (304, .iaload), (305, .invokevirtual 208), (308, .return_)]])
def gx_e168 : gx_E := (⟨"CopiedGraphsModel", "sayProperty", "(II)V"⟩, prog_9_method_49_code, (6, (Option.none : Option Jvm.ClassFile.FieldType), []), (9, 1, 2, 7), [[(0, .aload_n 0), (1, .iload_n 1), (2, .iload_n 2), (3, .invokevirtual 125), (6, .istore_n 3), (7, .iload_n 3), (8, .ifCond .ge 4), (11, .return_), (12, .aload_n 0), (13, .getfield 30), (16, .iload_n 3), (17, .iaload), (18, .istore 4), (20, .aload_n 0), (21, .getfield 33), (24, .iload_n 3), (25, .iaload), (26, .istore 5), (28, .iload 4), (30, .bipush 8), (32, .if_icmp .ne 15), (35, .iconst 4), (36, .istore 4), (38, .aload_n 0), (39, .iload_n 1), (40, .iload 5), (42, .invokevirtual 205), (45, .istore 5), (47, .aload_n 0), (48, .getfield 168), (51, .ifCond .ne 17), (54, .aload_n 0), (55, .iconst 1), (56, .invokevirtual 176), (59, .aload_n 0), (60, .iload_n 2), (61, .i2l), (62, .invokestatic 185)], [(65, .invokevirtual 189), (68, .aload_n 0), (69, .getfield 168), (72, .ifCond .ne 11), (75, .aload_n 0), (76, .iload 4), (78, .iload 5), (80, .invokevirtual 208), (83, .return_)]])
def gx_e169 : gx_E := (⟨"CopiedGraphsModel", "run", "(II)I"⟩, prog_9_method_48_code, (6, (Option.some Jvm.ClassFile.FieldType.int), []), (9, 1, 2, 7), [[(0, .iload_n 2), (1, .iconst 3), (2, .ishr), (3, .istore_n 3), (4, .iload_n 2), (5, .bipush 7), (7, .iand), (8, .istore 4), (10, .iload 4), (12, .iconst 1), (13, .if_icmp .ne 11), (16, .aload_n 0), (17, .iconst 2), (18, .putfield 168), (21, .goto 78), (24, .iload 4), (26, .iconst 2), (27, .if_icmp .ne 14), (30, .aload_n 0), (31, .iload_n 1), (32, .iload_n 3), (33, .invokevirtual 142), (36, .istore 5), (38, .goto 61), (41, .iload 4), (43, .iconst 3), (44, .if_icmp .ne 35), (47, .aload_n 0), (48, .iload_n 1), (49, .iload_n 3), (50, .invokevirtual 125), (53, .ifCond .ge 26), (56, .aload_n 0), (57, .getfield 13), (60, .iload_n 1), (61, .iaload), (62, .bipush 6)], [(64, .if_icmp .ge 15), (67, .aload_n 0), (68, .iload_n 1), (69, .iload_n 3), (70, .iconst 4), (71, .bipush 7), (73, .invokevirtual 138), (76, .goto 23), (79, .iload 4), (81, .iconst 4), (82, .if_icmp .ne 17), (85, .aload_n 0), (86, .iload_n 3), (87, .iconst 4), (88, .invokevirtual 109), (91, .ifCond .eq 8), (94, .aload_n 0), (95, .iload_n 3), (96, .invokevirtual 153), (99, .iload_n 3), (100, .ireturn)]])
def gx_e170 : gx_E := (⟨"CopiedGraphsModel", "handOver", "()V"⟩, prog_9_method_51_code, (3, (Option.none : Option Jvm.ClassFile.FieldType), []), (9, 1, 0, 7), [[(0, .aload_n 0), (1, .aload_n 0), (2, .getfield 160), (5, .putfield 157), (8, .iconst 0), (9, .istore_n 1), (10, .iload_n 1), (11, .aload_n 0), (12, .getfield 160), (15, .if_icmp .ge 77), (18, .aload_n 0), (19, .getfield 39), (22, .iload_n 1), (23, .aload_n 0), (24, .getfield 13), (27, .aload_n 0), (28, .getfield 36), (31, .iload_n 1), (32, .iaload), (33, .iaload), (34, .iastore), (35, .iconst 0), (36, .istore_n 2), (37, .iload_n 2), (38, .bipush 8), (40, .if_icmp .ge 36), (43, .aload_n 0), (44, .getfield 42), (47, .bipush 8), (49, .iload_n 1), (50, .imul), (51, .iload_n 2), (52, .iadd), (53, .aload_n 0), (54, .getfield 33), (57, .bipush 8), (59, .aload_n 0), (60, .getfield 36), (63, .iload_n 1)], [(64, .iaload), (65, .imul), (66, .iload_n 2), (67, .iadd), (68, .iaload), (69, .iastore), (70, .iinc 2 1), (73, .goto (-36)), (76, .aload_n 0), (77, .aload_n 0), (78, .getfield 36), (81, .iload_n 1), (82, .iaload), (83, .invokevirtual 153), (86, .iinc 1 1), (89, .goto (-79)), (92, .return_)]])
def gx_e171 : gx_E := (⟨"CopiedGraphsModel", "read", "()I"⟩, prog_9_method_71_code, (1, (Option.some Jvm.ClassFile.FieldType.int), []), (9, 1, 0, 7), [[(0, .aload_n 0), (1, .invokevirtual 296), (4, .aload_n 0), (5, .aload_n 0), (6, .getfield 227), (9, .ifCond .eq 7), (12, .iconst 0), (13, .goto 4), (16, .iconst 1), (17, .putfield 78), (20, .aload_n 0), (21, .getfield 78), (24, .ifCond .le 5), (27, .iconst 0), (28, .ireturn), (29, .aload_n 0), (30, .aload_n 0), (31, .getfield 238), (34, .putfield 82), (37, .aload_n 0), (38, .iconst 0), (39, .putfield 157), (42, .aload_n 0), (43, .aload_n 0), (44, .getfield 244), (47, .putfield 299), (50, .aload_n 0), (51, .getfield 241), (54, .ireturn)]])
def gx_e172 : gx_E := (⟨"CopiedGraphsModel", "takeAll", "()V"⟩, prog_9_method_70_code, (5, (Option.none : Option Jvm.ClassFile.FieldType), []), (9, 1, 0, 7), [[(0, .aload_n 0), (1, .invokevirtual 284), (4, .aload_n 0), (5, .iconst 0), (6, .putfield 231), (9, .aload_n 0), (10, .iconst 0), (11, .putfield 182), (14, .aload_n 0), (15, .iconst 0), (16, .putfield 179), (19, .aload_n 0), (20, .aload_n 0), (21, .getfield 227), (24, .ifCond .eq 16), (27, .aload_n 0), (28, .invokevirtual 234), (31, .bipush 15), (33, .if_icmp .ne 7), (36, .iconst 1), (37, .goto 4), (40, .iconst 0), (41, .putfield 227), (44, .iconst 1), (45, .istore_n 1), (46, .iconst 0), (47, .istore_n 2), (48, .aload_n 0), (49, .getfield 227), (52, .ifCond .eq 93), (55, .iload_n 2), (56, .ifCond .ne 89), (59, .iload_n 1), (60, .ifCond .eq 13), (63, .aload_n 0)], [(64, .invokevirtual 287), (67, .istore_n 3), (68, .iconst 0), (69, .istore_n 1), (70, .goto 33), (73, .aload_n 0), (74, .invokevirtual 290), (77, .istore 4), (79, .iload 4), (81, .iconst 1), (82, .if_icmp .ne 7), (85, .iconst 1), (86, .goto 4), (89, .iconst 0), (90, .istore_n 1), (91, .iload 4), (93, .iconst 2), (94, .if_icmp .ne 7), (97, .iconst 1), (98, .goto 4), (101, .iconst 0), (102, .istore_n 3), (103, .iload_n 3), (104, .ifCond .eq 14), (107, .aload_n 0), (108, .getfield 179), (111, .ifCond .ne 7), (114, .iconst 1), (115, .goto 4), (118, .iconst 0), (119, .istore_n 2), (120, .aload_n 0), (121, .getfield 227), (124, .ifCond .eq 18), (127, .iload_n 3)], [(128, .ifCond .eq 14), (131, .aload_n 0), (132, .getfield 179), (135, .ifCond .le 7), (138, .aload_n 0), (139, .invokevirtual 293), (142, .goto (-94)), (145, .aload_n 0), (146, .aload_n 0), (147, .getfield 227), (150, .ifCond .eq 18), (153, .aload_n 0), (154, .getfield 231), (157, .aload_n 0), (158, .getfield 224), (161, .if_icmp .ne 7), (164, .iconst 1), (165, .goto 4), (168, .iconst 0), (169, .putfield 227), (172, .return_)]])
def gx_e173 : gx_E := (⟨"CopiedGraphsModel", "takeHolders", "()V"⟩, prog_9_method_69_code, (4, (Option.none : Option Jvm.ClassFile.FieldType), []), (9, 1, 0, 7), [[(0, .aload_n 0), (1, .aload_n 0), (2, .getfield 82), (5, .putfield 238), (8, .aload_n 0), (9, .aload_n 0), (10, .getfield 82), (13, .aload_n 0), (14, .getfield 157), (17, .iadd), (18, .bipush 32), (20, .if_icmp .gt 7), (23, .iconst 1), (24, .goto 4), (27, .iconst 0), (28, .putfield 227), (31, .iconst 0), (32, .istore_n 1), (33, .iload_n 1), (34, .aload_n 0), (35, .getfield 157), (38, .if_icmp .ge 70), (41, .aload_n 0), (42, .getfield 227), (45, .ifCond .eq 63), (48, .aload_n 0), (49, .iconst 4), (50, .invokevirtual 250), (53, .istore_n 2), (54, .aload_n 0), (55, .getfield 13), (58, .iload_n 2), (59, .aload_n 0), (60, .getfield 39), (63, .iload_n 1)], [(64, .iaload), (65, .iastore), (66, .iconst 0), (67, .istore_n 3), (68, .iload_n 3), (69, .bipush 8), (71, .if_icmp .ge 31), (74, .aload_n 0), (75, .getfield 33), (78, .bipush 8), (80, .iload_n 2), (81, .imul), (82, .iload_n 3), (83, .iadd), (84, .aload_n 0), (85, .getfield 42), (88, .bipush 8), (90, .iload_n 1), (91, .imul), (92, .iload_n 3), (93, .iadd), (94, .iaload), (95, .iastore), (96, .iinc 3 1), (99, .goto (-31)), (102, .iinc 1 1), (105, .goto (-72)), (108, .return_)]])
def gx_e174 : gx_E := (⟨"CopiedGraphsModel", "nextObject", "(I)I"⟩, prog_9_method_57_code, (3, (Option.some Jvm.ClassFile.FieldType.int), []), (9, 1, 1, 7), [[(0, .aload_n 0), (1, .aload_n 0), (2, .getfield 227), (5, .ifCond .eq 16), (8, .aload_n 0), (9, .getfield 238), (12, .bipush 32), (14, .if_icmp .ge 7), (17, .iconst 1), (18, .goto 4), (21, .iconst 0), (22, .putfield 227), (25, .aload_n 0), (26, .getfield 227), (29, .ifCond .eq 10), (32, .aload_n 0), (33, .getfield 238), (36, .goto 5), (39, .bipush 31), (41, .istore_n 2), (42, .aload_n 0), (43, .getfield 227), (46, .ifCond .eq 19), (49, .aload_n 0), (50, .iload_n 2), (51, .iload_n 1), (52, .invokevirtual 92), (55, .aload_n 0), (56, .dup), (57, .getfield 238), (60, .iconst 1), (61, .iadd), (62, .putfield 238)], [(65, .iload_n 2), (66, .ireturn)]])
def gx_e175 : gx_E := (⟨"CopiedGraphsModel", "next", "()I"⟩, prog_9_method_53_code, (2, (Option.some Jvm.ClassFile.FieldType.int), []), (9, 1, 0, 7), [[(0, .aload_n 0), (1, .aload_n 0), (2, .getfield 227), (5, .ifCond .eq 18), (8, .aload_n 0), (9, .getfield 231), (12, .aload_n 0), (13, .getfield 224), (16, .if_icmp .ge 7), (19, .iconst 1), (20, .goto 4), (23, .iconst 0), (24, .putfield 227), (27, .aload_n 0), (28, .getfield 227), (31, .ifCond .eq 15), (34, .aload_n 0), (35, .getfield 45), (38, .aload_n 0), (39, .getfield 231), (42, .iaload), (43, .goto 4), (46, .iconst 0), (47, .istore_n 1), (48, .aload_n 0), (49, .dup), (50, .getfield 231), (53, .iconst 1), (54, .iadd), (55, .putfield 231), (58, .iload_n 1), (59, .ireturn)]])
def gx_e176 : gx_E := (⟨"CopiedGraphsModel", "takeValue", "()Z"⟩, prog_9_method_62_code, (2, (Option.some Jvm.ClassFile.FieldType.boolean), []), (9, 1, 0, 7), [[(0, .aload_n 0), (1, .aload_n 0), (2, .getfield 227), (5, .ifCond .eq 18), (8, .aload_n 0), (9, .getfield 179), (12, .iconst 1), (13, .iadd), (14, .bipush 12), (16, .if_icmp .gt 7), (19, .iconst 1), (20, .goto 4), (23, .iconst 0), (24, .putfield 227), (27, .aload_n 0), (28, .invokevirtual 234), (31, .istore_n 1), (32, .aload_n 0), (33, .getfield 227), (36, .ifCond .eq 7), (39, .iload_n 1), (40, .goto 4), (43, .iconst 0), (44, .tableswitch 234 0 14 #[76, 76, 76, 76, 84, 101, 112, 123, 134, 134, 134, 134, 144, 150, 228])], [(120, .aload_n 0), (121, .iload_n 1), (122, .iconst 0), (123, .invokevirtual 256), (126, .iconst 1), (127, .ireturn)], [(128, .aload_n 0), (129, .iconst 4), (130, .aload_n 0), (131, .bipush 32), (133, .invokevirtual 259), (136, .invokestatic 263), (139, .l2i), (140, .invokevirtual 256), (143, .iconst 1), (144, .ireturn), (145, .aload_n 0), (146, .iconst 5), (147, .aload_n 0), (148, .invokevirtual 266), (151, .invokevirtual 256), (154, .iconst 1), (155, .ireturn), (156, .aload_n 0), (157, .aload_n 0), (158, .getfield 182), (161, .iconst 0), (162, .invokevirtual 269), (165, .iconst 1), (166, .ireturn), (167, .aload_n 0), (168, .aload_n 0), (169, .getfield 157), (172, .iconst 1), (173, .invokevirtual 269), (176, .iconst 1), (177, .ireturn), (178, .aload_n 0), (179, .iload_n 1), (180, .bipush 8), (182, .isub), (183, .invokevirtual 272), (186, .iconst 0), (187, .ireturn), (188, .aload_n 0), (189, .invokevirtual 275)], [(192, .iconst 1), (193, .ireturn), (194, .aload_n 0), (195, .getfield 60), (198, .aload_n 0), (199, .getfield 179), (202, .aload_n 0), (203, .invokevirtual 234), (206, .iastore), (207, .aload_n 0), (208, .getfield 63), (211, .aload_n 0), (212, .getfield 179), (215, .aload_n 0), (216, .invokevirtual 234), (219, .iastore), (220, .aload_n 0), (221, .getfield 66), (224, .aload_n 0), (225, .getfield 179), (228, .aload_n 0), (229, .invokevirtual 234), (232, .iastore), (233, .aload_n 0), (234, .aload_n 0), (235, .getfield 227), (238, .ifCond .eq 22), (241, .aload_n 0), (242, .getfield 60), (245, .aload_n 0), (246, .getfield 179), (249, .iaload), (250, .invokestatic 106), (253, .ifCond .eq 7)], [(256, .iconst 1), (257, .goto 4), (260, .iconst 0), (261, .putfield 227), (264, .aload_n 0), (265, .iconst (-1)), (266, .iconst 1), (267, .invokevirtual 199), (270, .iconst 0), (271, .ireturn), (272, .aload_n 0), (273, .invokevirtual 278), (276, .iconst 1), (277, .ireturn), (278, .aload_n 0), (279, .iconst 0), (280, .putfield 227), (283, .iconst 1), (284, .ireturn)]])
def gx_e177 : gx_E := (⟨"CopiedGraphsModel", "got", "(II)V"⟩, prog_9_method_59_code, (3, (Option.none : Option Jvm.ClassFile.FieldType), []), (9, 1, 2, 7), [[(0, .aload_n 0), (1, .iload_n 1), (2, .putfield 241), (5, .aload_n 0), (6, .iload_n 2), (7, .putfield 244), (10, .return_)]])
def gx_e178 : gx_E := (⟨"CopiedGraphsModel", "lengthy", "(I)J"⟩, prog_9_method_55_code, (8, (Option.some Jvm.ClassFile.FieldType.long), []), (9, 1, 1, 7), [[(0, .lconst 0), (1, .lstore_n 2), (2, .iconst 0), (3, .istore 4), (5, .iconst 1), (6, .istore 5), (8, .iload 5), (10, .ifCond .eq 110), (13, .aload_n 0), (14, .getfield 227), (17, .ifCond .eq 103), (20, .aload_n 0), (21, .invokevirtual 234), (24, .istore 6), (26, .iload_n 1), (27, .bipush 7), (29, .iload 4), (31, .imul), (32, .isub), (33, .istore 7), (35, .aload_n 0), (36, .aload_n 0), (37, .getfield 227), (40, .ifCond .eq 41), (43, .iload 7), (45, .ifCond .le 36), (48, .iload 7), (50, .bipush 6), (52, .if_icmp .gt 15), (55, .iload 6), (57, .bipush 127), (59, .iand), (60, .iconst 1), (61, .iload 7), (63, .ishl)], [(64, .if_icmp .ge 17), (67, .iload 6), (69, .ifCond .ne 8), (72, .iload 4), (74, .ifCond .ne 7), (77, .iconst 1), (78, .goto 4), (81, .iconst 0), (82, .putfield 227), (85, .lload_n 2), (86, .iload 6), (88, .bipush 127), (90, .iand), (91, .i2l), (92, .bipush 7), (94, .iload 4), (96, .imul), (97, .lshl), (98, .lor), (99, .lstore_n 2), (100, .iload 6), (102, .bipush 127), (104, .if_icmp .le 7), (107, .iconst 1), (108, .goto 4), (111, .iconst 0), (112, .istore 5), (114, .iinc 4 1), (117, .goto (-109)), (120, .lload_n 2), (121, .lreturn)]])
def gx_e179 : gx_E := (⟨"CopiedGraphsModel", "plain", "(J)J"⟩, prog_9_method_56_code, (2, (Option.some Jvm.ClassFile.FieldType.long), []), (9, 0, 1, 0), [[(0, .lload_n 0), (1, .iconst 1), (2, .lushr), (3, .lload_n 0), (4, .lconst 1), (5, .land), (6, .lneg), (7, .lxor), (8, .lreturn)]])
def gx_e180 : gx_E := (⟨"CopiedGraphsModel", "text", "()I"⟩, prog_9_method_60_code, (5, (Option.some Jvm.ClassFile.FieldType.int), []), (9, 1, 0, 7), [[(0, .aload_n 0), (1, .iconst 4), (2, .invokevirtual 247), (5, .istore_n 1), (6, .iconst 0), (7, .istore_n 2), (8, .iconst 0), (9, .istore_n 3), (10, .iload_n 3), (11, .iload_n 1), (12, .if_icmp .ge 46), (15, .aload_n 0), (16, .invokevirtual 234), (19, .istore 4), (21, .aload_n 0), (22, .aload_n 0), (23, .getfield 227), (26, .ifCond .eq 12), (29, .iload 4), (31, .ifCond .eq 7), (34, .iconst 1), (35, .goto 4), (38, .iconst 0), (39, .putfield 227), (42, .iload_n 2), (43, .iload 4), (45, .bipush 8), (47, .iload_n 3), (48, .imul), (49, .ishl), (50, .ior), (51, .istore_n 2), (52, .iinc 3 1), (55, .goto (-45)), (58, .iload_n 2), (59, .ireturn)]])
def gx_e181 : gx_E := (⟨"CopiedGraphsModel", "nextUpTo", "(I)I"⟩, prog_9_method_54_code, (3, (Option.some Jvm.ClassFile.FieldType.int), []), (9, 1, 1, 7), [[(0, .aload_n 0), (1, .invokevirtual 234), (4, .istore_n 2), (5, .aload_n 0), (6, .aload_n 0), (7, .getfield 227), (10, .ifCond .eq 12), (13, .iload_n 2), (14, .iload_n 1), (15, .if_icmp .gt 7), (18, .iconst 1), (19, .goto 4), (22, .iconst 0), (23, .putfield 227), (26, .aload_n 0), (27, .getfield 227), (30, .ifCond .eq 7), (33, .iload_n 2), (34, .goto 4), (37, .iconst 0), (38, .ireturn)]])
def gx_e182 : gx_E := (⟨"CopiedGraphsModel", "takePlace", "(II)V"⟩, prog_9_method_63_code, (5, (Option.none : Option Jvm.ClassFile.FieldType), []), (9, 1, 2, 7), [[(0, .aload_n 0), (1, .bipush 64), (3, .invokevirtual 259), (6, .lstore_n 3), (7, .aload_n 0), (8, .aload_n 0), (9, .getfield 227), (12, .ifCond .eq 20), (15, .lload_n 3), (16, .lconst 0), (17, .lcmp), (18, .ifCond .lt 14), (21, .lload_n 3), (22, .iload_n 1), (23, .i2l), (24, .lcmp), (25, .ifCond .ge 7), (28, .iconst 1), (29, .goto 4), (32, .iconst 0), (33, .putfield 227), (36, .aload_n 0), (37, .bipush 6), (39, .aload_n 0), (40, .getfield 227), (43, .ifCond .ne 7), (46, .iconst 0), (47, .goto 24), (50, .iload_n 2), (51, .ifCond .ne 13), (54, .aload_n 0), (55, .getfield 75), (58, .lload_n 3), (59, .l2i), (60, .iaload), (61, .goto 10)], [(64, .aload_n 0), (65, .getfield 82), (68, .lload_n 3), (69, .l2i), (70, .iadd), (71, .invokevirtual 256), (74, .return_)]])
def gx_e183 : gx_E := (⟨"CopiedGraphsModel", "takeMany", "(I)V"⟩, prog_9_method_65_code, (4, (Option.none : Option Jvm.ClassFile.FieldType), []), (9, 1, 1, 7), [[(0, .aload_n 0), (1, .iload_n 1), (2, .invokevirtual 250), (5, .istore_n 2), (6, .aload_n 0), (7, .iload_n 2), (8, .invokevirtual 253), (11, .iload_n 1), (12, .ifCond .ne 7), (15, .iconst 0), (16, .goto 27), (19, .aload_n 0), (20, .iload_n 1), (21, .iconst 1), (22, .if_icmp .ne 8), (25, .bipush 8), (27, .goto 13), (30, .iload_n 1), (31, .iconst 2), (32, .if_icmp .ne 7), (35, .iconst 4), (36, .goto 4), (39, .iconst 5), (40, .invokevirtual 247), (43, .istore_n 3), (44, .aload_n 0), (45, .getfield 227), (48, .ifCond .eq 20), (51, .aload_n 0), (52, .iload_n 2), (53, .iload_n 1), (54, .iconst 2), (55, .if_icmp .ne 9), (58, .iconst 2), (59, .iload_n 3), (60, .imul), (61, .goto 4)], [(64, .iload_n 3), (65, .invokevirtual 199), (68, .return_)]])
def gx_e184 : gx_E := (⟨"CopiedGraphsModel", "enroll", "(I)V"⟩, prog_9_method_58_code, (2, (Option.none : Option Jvm.ClassFile.FieldType), []), (9, 1, 1, 7), [[(0, .aload_n 0), (1, .getfield 227), (4, .ifCond .eq 23), (7, .aload_n 0), (8, .getfield 75), (11, .aload_n 0), (12, .getfield 182), (15, .iload_n 1), (16, .iastore), (17, .aload_n 0), (18, .dup), (19, .getfield 182), (22, .iconst 1), (23, .iadd), (24, .putfield 182), (27, .return_)]])
def gx_e185 : gx_E := (⟨"CopiedGraphsModel", "takeBuffer", "()V"⟩, prog_9_method_61_code, (4, (Option.none : Option Jvm.ClassFile.FieldType), []), (9, 1, 0, 7), [[(0, .aload_n 0), (1, .bipush 8), (3, .invokevirtual 247), (6, .istore_n 1), (7, .aload_n 0), (8, .iconst 4), (9, .invokevirtual 250), (12, .istore_n 2), (13, .aload_n 0), (14, .iload_n 2), (15, .invokevirtual 253), (18, .iconst 0), (19, .istore_n 3), (20, .iload_n 3), (21, .iload_n 1), (22, .if_icmp .ge 31), (25, .aload_n 0), (26, .getfield 227), (29, .ifCond .eq 24), (32, .aload_n 0), (33, .getfield 33), (36, .bipush 8), (38, .iload_n 2), (39, .imul), (40, .iload_n 3), (41, .iadd), (42, .aload_n 0), (43, .invokevirtual 234), (46, .iastore), (47, .iinc 3 1), (50, .goto (-30)), (53, .aload_n 0), (54, .getfield 13), (57, .iload_n 2), (58, .aload_n 0), (59, .getfield 227), (62, .ifCond .eq 7)], [(65, .iload_n 1), (66, .goto 9), (69, .aload_n 0), (70, .getfield 13), (73, .iload_n 2), (74, .iaload), (75, .iastore), (76, .aload_n 0), (77, .bipush 6), (79, .iload_n 2), (80, .invokevirtual 256), (83, .return_)]])
def gx_e186 : gx_E := (⟨"CopiedGraphsModel", "takeStamp", "()V"⟩, prog_9_method_64_code, (4, (Option.none : Option Jvm.ClassFile.FieldType), []), (9, 1, 0, 7), [[(0, .aload_n 0), (1, .bipush 6), (3, .invokevirtual 250), (6, .istore_n 1), (7, .aload_n 0), (8, .iload_n 1), (9, .invokevirtual 253), (12, .aload_n 0), (13, .bipush 64), (15, .invokevirtual 259), (18, .invokestatic 263), (21, .lstore_n 2), (22, .aload_n 0), (23, .getfield 227), (26, .ifCond .eq 10), (29, .aload_n 0), (30, .getfield 20), (33, .iload_n 1), (34, .lload_n 2), (35, .lastore), (36, .aload_n 0), (37, .bipush 6), (39, .iload_n 1), (40, .invokevirtual 256), (43, .return_)]])
def gx_e187 : gx_E := (⟨"CopiedGraphsModel", "goesOn", "()I"⟩, prog_9_method_66_code, (5, (Option.some Jvm.ClassFile.FieldType.int), []), (9, 1, 0, 7), [[(0, .aload_n 0), (1, .getfield 179), (4, .iconst 1), (5, .isub), (6, .istore_n 1), (7, .aload_n 0), (8, .getfield 48), (11, .iload_n 1), (12, .iaload), (13, .istore_n 2), (14, .iload_n 2), (15, .ifCond .ge 7), (18, .iconst 5), (19, .goto 9), (22, .aload_n 0), (23, .getfield 7), (26, .iload_n 2), (27, .iaload), (28, .istore_n 3), (29, .iload_n 3), (30, .ifCond .ne 80), (33, .aload_n 0), (34, .iconst 1), (35, .invokevirtual 247), (38, .ifCond .ne 10), (41, .aload_n 0), (42, .iload_n 2), (43, .invokevirtual 281), (46, .iconst 2), (47, .ireturn), (48, .aload_n 0), (49, .bipush 32), (51, .invokevirtual 259), (54, .invokestatic 263), (57, .l2i), (58, .istore 4), (60, .aload_n 0), (61, .aload_n 0), (62, .getfield 227)], [(65, .ifCond .eq 28), (68, .aload_n 0), (69, .getfield 13), (72, .iload_n 2), (73, .iaload), (74, .bipush 6), (76, .if_icmp .ge 17), (79, .aload_n 0), (80, .iload_n 2), (81, .iload 4), (83, .invokevirtual 125), (86, .ifCond .ge 7), (89, .iconst 1), (90, .goto 4), (93, .iconst 0), (94, .putfield 227), (97, .aload_n 0), (98, .getfield 57), (101, .bipush 6), (103, .iload_n 1), (104, .imul), (105, .iload 4), (107, .iastore), (108, .iconst 1), (109, .ireturn), (110, .aload_n 0), (111, .getfield 51), (114, .iload_n 1), (115, .iaload), (116, .aload_n 0), (117, .getfield 54), (120, .iload_n 1), (121, .iaload), (122, .if_icmp .ne 10), (125, .aload_n 0), (126, .iload_n 2), (127, .invokevirtual 281)], [(130, .iconst 2), (131, .ireturn), (132, .iload_n 3), (133, .iconst 1), (134, .if_icmp .ne 57), (137, .aload_n 0), (138, .iconst 1), (139, .invokevirtual 247), (142, .ifCond .ne 49), (145, .aload_n 0), (146, .getfield 227), (149, .ifCond .eq 30), (152, .aload_n 0), (153, .bipush 8), (155, .iload_n 2), (156, .imul), (157, .aload_n 0), (158, .getfield 13), (161, .iload_n 2), (162, .iaload), (163, .iadd), (164, .iconst (-1)), (165, .iconst 0), (166, .invokevirtual 131), (169, .aload_n 0), (170, .getfield 13), (173, .iload_n 2), (174, .dup2), (175, .iaload), (176, .iconst 1), (177, .iadd), (178, .iastore), (179, .aload_n 0), (180, .getfield 51), (183, .iload_n 1), (184, .dup2), (185, .iaload), (186, .iconst 1), (187, .iadd), (188, .iastore), (189, .iconst 0), (190, .ireturn), (191, .iconst 1)], [(192, .ireturn)]])
def gx_e188 : gx_E := (⟨"CopiedGraphsModel", "finish", "(I)V"⟩, prog_9_method_67_code, (4, (Option.none : Option Jvm.ClassFile.FieldType), []), (9, 1, 1, 7), [[(0, .aload_n 0), (1, .dup), (2, .getfield 179), (5, .iconst 1), (6, .isub), (7, .putfield 179), (10, .iload_n 1), (11, .ifCond .lt 11), (14, .aload_n 0), (15, .bipush 6), (17, .iload_n 1), (18, .invokevirtual 256), (21, .return_), (22, .aload_n 0), (23, .getfield 244), (26, .istore_n 2), (27, .aload_n 0), (28, .aload_n 0), (29, .getfield 227), (32, .ifCond .eq 65), (35, .aload_n 0), (36, .getfield 241), (39, .bipush 6), (41, .if_icmp .ne 56), (44, .aload_n 0), (45, .getfield 7), (48, .iload_n 2), (49, .iaload), (50, .iconst 4), (51, .if_icmp .ne 46), (54, .aload_n 0), (55, .getfield 60), (58, .aload_n 0), (59, .getfield 179), (62, .iaload), (63, .aload_n 0)], [(64, .getfield 63), (67, .aload_n 0), (68, .getfield 179), (71, .iaload), (72, .aload_n 0), (73, .getfield 66), (76, .aload_n 0), (77, .getfield 179), (80, .iaload), (81, .aload_n 0), (82, .getfield 13), (85, .iload_n 2), (86, .iaload), (87, .invokestatic 113), (90, .ifCond .eq 7), (93, .iconst 1), (94, .goto 4), (97, .iconst 0), (98, .putfield 227), (101, .aload_n 0), (102, .iconst 5), (103, .invokevirtual 250), (106, .istore_n 3), (107, .aload_n 0), (108, .getfield 227), (111, .ifCond .eq 36), (114, .aload_n 0), (115, .iload_n 3), (116, .iload_n 2), (117, .aload_n 0), (118, .getfield 60), (121, .aload_n 0), (122, .getfield 179), (125, .iaload), (126, .aload_n 0), (127, .getfield 63)], [(130, .aload_n 0), (131, .getfield 179), (134, .iaload), (135, .aload_n 0), (136, .getfield 66), (139, .aload_n 0), (140, .getfield 179), (143, .iaload), (144, .invokevirtual 117), (147, .aload_n 0), (148, .iload_n 3), (149, .invokevirtual 253), (152, .aload_n 0), (153, .bipush 6), (155, .iload_n 3), (156, .invokevirtual 256), (159, .return_)]])
def gx_e189 : gx_E := (⟨"CopiedGraphsModel", "deliver", "()V"⟩, prog_9_method_68_code, (5, (Option.none : Option Jvm.ClassFile.FieldType), []), (9, 1, 0, 7), [[(0, .aload_n 0), (1, .getfield 179), (4, .iconst 1), (5, .isub), (6, .istore_n 1), (7, .aload_n 0), (8, .getfield 48), (11, .iload_n 1), (12, .iaload), (13, .istore_n 2), (14, .iload_n 2), (15, .ifCond .ge 7), (18, .iconst 5), (19, .goto 9), (22, .aload_n 0), (23, .getfield 7), (26, .iload_n 2), (27, .iaload), (28, .istore_n 3), (29, .aload_n 0), (30, .getfield 51), (33, .iload_n 1), (34, .iaload), (35, .istore 4), (37, .aload_n 0), (38, .getfield 51), (41, .iload_n 1), (42, .dup2), (43, .iaload), (44, .iconst 1), (45, .iadd), (46, .iastore), (47, .iload_n 3), (48, .ifCond .ne 28), (51, .aload_n 0), (52, .iload_n 2), (53, .aload_n 0), (54, .getfield 57), (57, .bipush 6), (59, .iload_n 1), (60, .imul), (61, .iaload), (62, .aload_n 0), (63, .getfield 241)], [(66, .aload_n 0), (67, .getfield 244), (70, .invokevirtual 138), (73, .goto 236), (76, .iload_n 3), (77, .iconst 1), (78, .if_icmp .ne 39), (81, .aload_n 0), (82, .bipush 8), (84, .iload_n 2), (85, .imul), (86, .aload_n 0), (87, .getfield 13), (90, .iload_n 2), (91, .iaload), (92, .iadd), (93, .aload_n 0), (94, .getfield 241), (97, .aload_n 0), (98, .getfield 244), (101, .invokevirtual 131), (104, .aload_n 0), (105, .getfield 13), (108, .iload_n 2), (109, .dup2), (110, .iaload), (111, .iconst 1), (112, .iadd), (113, .iastore), (114, .goto 195), (117, .iload_n 3), (118, .iconst 3), (119, .if_icmp .ne 71), (122, .aload_n 0), (123, .aload_n 0), (124, .getfield 227), (127, .ifCond .eq 23)], [(130, .aload_n 0), (131, .iload_n 2), (132, .aload_n 0), (133, .getfield 241), (136, .aload_n 0), (137, .getfield 244), (140, .invokevirtual 149), (143, .ifCond .ne 7), (146, .iconst 1), (147, .goto 4), (150, .iconst 0), (151, .putfield 227), (154, .aload_n 0), (155, .bipush 8), (157, .iload_n 2), (158, .imul), (159, .aload_n 0), (160, .getfield 13), (163, .iload_n 2), (164, .iaload), (165, .iadd), (166, .aload_n 0), (167, .getfield 241), (170, .aload_n 0), (171, .getfield 244), (174, .invokevirtual 131), (177, .aload_n 0), (178, .getfield 13), (181, .iload_n 2), (182, .dup2), (183, .iaload), (184, .iconst 1), (185, .iadd), (186, .iastore), (187, .goto 122), (190, .iload_n 3), (191, .iconst 2)], [(192, .if_icmp .ne 81), (195, .iload 4), (197, .iconst 2), (198, .irem), (199, .ifCond .ne 74), (202, .aload_n 0), (203, .aload_n 0), (204, .getfield 227), (207, .ifCond .eq 23), (210, .aload_n 0), (211, .iload_n 2), (212, .aload_n 0), (213, .getfield 241), (216, .aload_n 0), (217, .getfield 244), (220, .invokevirtual 145), (223, .ifCond .ge 7), (226, .iconst 1), (227, .goto 4), (230, .iconst 0), (231, .putfield 227), (234, .aload_n 0), (235, .getfield 27), (238, .bipush 8), (240, .iload_n 2), (241, .imul), (242, .iload 4), (244, .iconst 2), (245, .idiv), (246, .iadd), (247, .aload_n 0), (248, .getfield 241), (251, .iastore), (252, .aload_n 0), (253, .getfield 24)], [(256, .bipush 8), (258, .iload_n 2), (259, .imul), (260, .iload 4), (262, .iconst 2), (263, .idiv), (264, .iadd), (265, .aload_n 0), (266, .getfield 244), (269, .iastore), (270, .goto 39), (273, .iload_n 3), (274, .iconst 2), (275, .if_icmp .ne 34), (278, .aload_n 0), (279, .bipush 8), (281, .iload_n 2), (282, .imul), (283, .iload 4), (285, .iconst 2), (286, .idiv), (287, .iadd), (288, .aload_n 0), (289, .getfield 241), (292, .aload_n 0), (293, .getfield 244), (296, .invokevirtual 131), (299, .aload_n 0), (300, .getfield 13), (303, .iload_n 2), (304, .dup2), (305, .iaload), (306, .iconst 1), (307, .iadd), (308, .iastore), (309, .return_)]])
def gx_e190 : gx_E := (⟨"CopiedGraphsModel", "found", "()I"⟩, prog_9_method_72_code, (1, (Option.some Jvm.ClassFile.FieldType.int), []), (9, 1, 0, 7), [[(0, .aload_n 0), (1, .iconst 0), (2, .putfield 78), (5, .aload_n 0), (6, .getfield 299), (9, .ireturn)]])
def gx_e191 : gx_E := (⟨"CopiedGraphsModel", "feed", "(JI)I"⟩, prog_9_method_73_code, (5, (Option.some Jvm.ClassFile.FieldType.int), []), (9, 1, 2, 7), [[(0, .aload_n 0), (1, .iconst 0), (2, .putfield 78), (5, .iload_n 3), (6, .iconst 1), (7, .if_icmp .lt 21), (10, .iload_n 3), (11, .bipush 8), (13, .if_icmp .gt 15), (16, .aload_n 0), (17, .getfield 224), (20, .iload_n 3), (21, .iadd), (22, .sipush 300), (25, .if_icmp .le 5), (28, .iconst (-1)), (29, .ireturn), (30, .iconst 0), (31, .istore 4), (33, .iload 4), (35, .iload_n 3), (36, .if_icmp .ge 40), (39, .aload_n 0), (40, .getfield 45), (43, .aload_n 0), (44, .getfield 224), (47, .lload_n 1), (48, .bipush 8), (50, .iload 4), (52, .imul), (53, .lshr), (54, .ldc2_w 104), (57, .land), (58, .l2i), (59, .iastore), (60, .aload_n 0), (61, .dup), (62, .getfield 224)], [(65, .iconst 1), (66, .iadd), (67, .putfield 224), (70, .iinc 4 1), (73, .goto (-40)), (76, .aload_n 0), (77, .getfield 224), (80, .ireturn)]])
def gx_e192 : gx_E := (⟨"CopiedGraphsModel", "wipe", "()I"⟩, prog_9_method_74_code, (2, (Option.some Jvm.ClassFile.FieldType.int), []), (9, 1, 0, 7), [[(0, .aload_n 0), (1, .iconst 0), (2, .putfield 78), (5, .aload_n 0), (6, .getfield 224), (9, .istore_n 1), (10, .aload_n 0), (11, .iconst 0), (12, .putfield 224), (15, .iload_n 1), (16, .ireturn)]])
def gx_e193 : gx_E := (⟨"CopiedGraphsModel", "spoil", "(II)Z"⟩, prog_9_method_75_code, (3, (Option.some Jvm.ClassFile.FieldType.boolean), []), (9, 1, 2, 7), [[(0, .aload_n 0), (1, .iconst 0), (2, .putfield 78), (5, .iload_n 1), (6, .ifCond .lt 11), (9, .iload_n 1), (10, .aload_n 0), (11, .getfield 224), (14, .if_icmp .lt 5), (17, .iconst 0), (18, .ireturn), (19, .aload_n 0), (20, .getfield 45), (23, .iload_n 1), (24, .iload_n 2), (25, .sipush 255), (28, .iand), (29, .iastore), (30, .iconst 1), (31, .ireturn)]])
def gx_e194 : gx_E := (⟨"CopiedGraphsModel", "byteAt", "(I)I"⟩, prog_9_method_76_code, (2, (Option.some Jvm.ClassFile.FieldType.int), []), (9, 1, 1, 7), [[(0, .aload_n 0), (1, .iconst 0), (2, .putfield 78), (5, .iload_n 1), (6, .ifCond .lt 20), (9, .iload_n 1), (10, .aload_n 0), (11, .getfield 224), (14, .if_icmp .ge 12), (17, .aload_n 0), (18, .getfield 45), (21, .iload_n 1), (22, .iaload), (23, .goto 4), (26, .iconst (-1)), (27, .ireturn)]])
def gx_lw0 : List (Nat × Instr) := [(0, .new 8), (3, .dup), (4, .invokespecial 64), (7, .astore_n 1), (8, .new 65), (11, .dup), (12, .invokespecial 67), (15, .astore_n 2), (16, .iconst 1), (17, .newarray .long), (19, .astore_n 3), (20, .iconst 0), (21, .istore 4), (23, .iload 4), (25, .aload_n 0), (26, .arraylength), (27, .bipush 6), (29, .isub), (30, .if_icmp .gt 1296), (33, .aload_n 0), (34, .iload 4), (36, .iaload), (37, .bipush 31), (39, .iand), (40, .tableswitch 1280 0 22 #[108, 164, 264, 356, 444, 516, 591, 675, 762, 787, 800, 813, 838, 863, 942, 998, 1011, 1079, 1123, 1136, 1205, 1218, 1255])]
def gx_lw1 : List (Nat × Instr) := []
def gx_lw2 : List (Nat × Instr) := [(148, .aload_n 1), (149, .aload_n 0), (150, .iload 4), (152, .iconst 1), (153, .iadd), (154, .iaload), (155, .aload_n 3), (156, .invokestatic 68), (159, .istore 5), (161, .aload_n 2), (162, .aload_n 0), (163, .iload 4), (165, .iconst 1), (166, .iadd), (167, .iaload), (168, .invokevirtual 73), (171, .istore 6), (173, .aload_n 2), (174, .invokevirtual 74), (177, .iload 5), (179, .if_icmp .eq 5), (182, .iconst 0), (183, .ireturn), (184, .iload 5), (186, .ifCond .ne 15), (189, .aload_n 3), (190, .iconst 0), (191, .laload)]
def gx_lw3 : List (Nat × Instr) := [(192, .iload 6), (194, .i2l), (195, .lcmp), (196, .ifCond .eq 5), (199, .iconst 0), (200, .ireturn), (201, .goto 1119), (204, .aload_n 1), (205, .aload_n 0), (206, .iload 4), (208, .iconst 1), (209, .iadd), (210, .iaload), (211, .i2l), (212, .bipush 32), (214, .lshl), (215, .aload_n 0), (216, .iload 4), (218, .iconst 2), (219, .iadd), (220, .iaload), (221, .i2l), (222, .ldc2_w 77), (225, .land), (226, .lor), (227, .aload_n 0), (228, .iload 4), (230, .iconst 3), (231, .iadd), (232, .iaload), (233, .aload_n 3), (234, .invokestatic 79), (237, .istore 5), (239, .aload_n 2), (240, .aload_n 0), (241, .iload 4), (243, .iconst 1), (244, .iadd), (245, .iaload), (246, .i2l), (247, .bipush 32), (249, .lshl), (250, .aload_n 0), (251, .iload 4), (253, .iconst 2), (254, .iadd), (255, .iaload)]
def gx_lw4 : List (Nat × Instr) := [(256, .i2l), (257, .ldc2_w 77), (260, .land), (261, .lor), (262, .aload_n 0), (263, .iload 4), (265, .iconst 3), (266, .iadd), (267, .iaload), (268, .invokevirtual 82), (271, .istore 6), (273, .aload_n 2), (274, .invokevirtual 74), (277, .iload 5), (279, .if_icmp .eq 5), (282, .iconst 0), (283, .ireturn), (284, .iload 5), (286, .ifCond .ne 15), (289, .aload_n 3), (290, .iconst 0), (291, .laload), (292, .iload 6), (294, .i2l), (295, .lcmp), (296, .ifCond .eq 5), (299, .iconst 0), (300, .ireturn), (301, .goto 1019), (304, .aload_n 1), (305, .aload_n 0), (306, .iload 4), (308, .iconst 1), (309, .iadd), (310, .iaload), (311, .aload_n 0), (312, .iload 4), (314, .iconst 2), (315, .iadd), (316, .iaload), (317, .aload_n 0), (318, .iload 4)]
def gx_lw5 : List (Nat × Instr) := [(320, .iconst 3), (321, .iadd), (322, .iaload), (323, .aload_n 0), (324, .iload 4), (326, .iconst 4), (327, .iadd), (328, .iaload), (329, .aload_n 3), (330, .invokestatic 83), (333, .istore 5), (335, .aload_n 2), (336, .aload_n 0), (337, .iload 4), (339, .iconst 1), (340, .iadd), (341, .iaload), (342, .aload_n 0), (343, .iload 4), (345, .iconst 2), (346, .iadd), (347, .iaload), (348, .aload_n 0), (349, .iload 4), (351, .iconst 3), (352, .iadd), (353, .iaload), (354, .aload_n 0), (355, .iload 4), (357, .iconst 4), (358, .iadd), (359, .iaload), (360, .invokevirtual 86), (363, .istore 6), (365, .aload_n 2), (366, .invokevirtual 74), (369, .iload 5), (371, .if_icmp .eq 5), (374, .iconst 0), (375, .ireturn), (376, .iload 5), (378, .ifCond .ne 15), (381, .aload_n 3), (382, .iconst 0), (383, .laload)]
def gx_lw6 : List (Nat × Instr) := [(384, .iload 6), (386, .i2l), (387, .lcmp), (388, .ifCond .eq 5), (391, .iconst 0), (392, .ireturn), (393, .goto 927), (396, .aload_n 1), (397, .aload_n 0), (398, .iload 4), (400, .iconst 1), (401, .iadd), (402, .iaload), (403, .i2l), (404, .bipush 32), (406, .lshl), (407, .aload_n 0), (408, .iload 4), (410, .iconst 2), (411, .iadd), (412, .iaload), (413, .i2l), (414, .ldc2_w 77), (417, .land), (418, .lor), (419, .aload_n 3), (420, .invokestatic 87), (423, .istore 5), (425, .aload_n 2), (426, .aload_n 0), (427, .iload 4), (429, .iconst 1), (430, .iadd), (431, .iaload), (432, .i2l), (433, .bipush 32), (435, .lshl), (436, .aload_n 0), (437, .iload 4), (439, .iconst 2), (440, .iadd), (441, .iaload), (442, .i2l), (443, .ldc2_w 77), (446, .land), (447, .lor)]
def gx_lw7 : List (Nat × Instr) := [(448, .invokevirtual 90), (451, .istore 6), (453, .aload_n 2), (454, .invokevirtual 74), (457, .iload 5), (459, .if_icmp .eq 5), (462, .iconst 0), (463, .ireturn), (464, .iload 5), (466, .ifCond .ne 15), (469, .aload_n 3), (470, .iconst 0), (471, .laload), (472, .iload 6), (474, .i2l), (475, .lcmp), (476, .ifCond .eq 5), (479, .iconst 0), (480, .ireturn), (481, .goto 839), (484, .aload_n 1), (485, .aload_n 0), (486, .iload 4), (488, .iconst 1), (489, .iadd), (490, .iaload), (491, .aload_n 0), (492, .iload 4), (494, .iconst 2), (495, .iadd), (496, .iaload), (497, .aload_n 0), (498, .iload 4), (500, .iconst 3), (501, .iadd), (502, .iaload), (503, .aload_n 0), (504, .iload 4), (506, .iconst 4), (507, .iadd), (508, .iaload), (509, .invokestatic 91)]
def gx_lw8 : List (Nat × Instr) := [(512, .istore 5), (514, .aload_n 2), (515, .aload_n 0), (516, .iload 4), (518, .iconst 1), (519, .iadd), (520, .iaload), (521, .aload_n 0), (522, .iload 4), (524, .iconst 2), (525, .iadd), (526, .iaload), (527, .aload_n 0), (528, .iload 4), (530, .iconst 3), (531, .iadd), (532, .iaload), (533, .aload_n 0), (534, .iload 4), (536, .iconst 4), (537, .iadd), (538, .iaload), (539, .invokevirtual 94), (542, .aload_n 2), (543, .invokevirtual 74), (546, .iload 5), (548, .if_icmp .eq 5), (551, .iconst 0), (552, .ireturn), (553, .goto 767), (556, .aload_n 1), (557, .aload_n 0), (558, .iload 4), (560, .iconst 1), (561, .iadd), (562, .iaload), (563, .aload_n 0), (564, .iload 4), (566, .iconst 2), (567, .iadd), (568, .iaload), (569, .aload_n 3), (570, .invokestatic 95), (573, .istore 5), (575, .aload_n 2)]
def gx_lw9 : List (Nat × Instr) := [(576, .aload_n 0), (577, .iload 4), (579, .iconst 1), (580, .iadd), (581, .iaload), (582, .aload_n 0), (583, .iload 4), (585, .iconst 2), (586, .iadd), (587, .iaload), (588, .invokevirtual 98), (591, .istore 6), (593, .aload_n 2), (594, .invokevirtual 74), (597, .iload 5), (599, .if_icmp .eq 5), (602, .iconst 0), (603, .ireturn), (604, .iload 5), (606, .ifCond .ne 22), (609, .aload_n 3), (610, .iconst 0), (611, .laload), (612, .iload 6), (614, .ifCond .eq 7), (617, .lconst 1), (618, .goto 4), (621, .lconst 0), (622, .lcmp), (623, .ifCond .eq 5), (626, .iconst 0), (627, .ireturn), (628, .goto 692), (631, .aload_n 1), (632, .aload_n 0), (633, .iload 4), (635, .iconst 1), (636, .iadd), (637, .iaload), (638, .aload_n 0), (639, .iload 4)]
def gx_lw10 : List (Nat × Instr) := [(641, .iconst 2), (642, .iadd), (643, .iaload), (644, .aload_n 0), (645, .iload 4), (647, .iconst 3), (648, .iadd), (649, .iaload), (650, .aload_n 0), (651, .iload 4), (653, .iconst 4), (654, .iadd), (655, .iaload), (656, .aload_n 0), (657, .iload 4), (659, .iconst 5), (660, .iadd), (661, .iaload), (662, .invokestatic 99), (665, .istore 5), (667, .aload_n 2), (668, .aload_n 0), (669, .iload 4), (671, .iconst 1), (672, .iadd), (673, .iaload), (674, .aload_n 0), (675, .iload 4), (677, .iconst 2), (678, .iadd), (679, .iaload), (680, .aload_n 0), (681, .iload 4), (683, .iconst 3), (684, .iadd), (685, .iaload), (686, .aload_n 0), (687, .iload 4), (689, .iconst 4), (690, .iadd), (691, .iaload), (692, .aload_n 0), (693, .iload 4), (695, .iconst 5), (696, .iadd), (697, .iaload), (698, .invokevirtual 102), (701, .aload_n 2), (702, .invokevirtual 74)]
def gx_lw11 : List (Nat × Instr) := [(705, .iload 5), (707, .if_icmp .eq 5), (710, .iconst 0), (711, .ireturn), (712, .goto 608), (715, .aload_n 1), (716, .aload_n 0), (717, .iload 4), (719, .iconst 1), (720, .iadd), (721, .iaload), (722, .aload_n 0), (723, .iload 4), (725, .iconst 2), (726, .iadd), (727, .iaload), (728, .aload_n 0), (729, .iload 4), (731, .iconst 3), (732, .iadd), (733, .iaload), (734, .aload_n 3), (735, .invokestatic 103), (738, .istore 5), (740, .aload_n 2), (741, .aload_n 0), (742, .iload 4), (744, .iconst 1), (745, .iadd), (746, .iaload), (747, .aload_n 0), (748, .iload 4), (750, .iconst 2), (751, .iadd), (752, .iaload), (753, .aload_n 0), (754, .iload 4), (756, .iconst 3), (757, .iadd), (758, .iaload), (759, .invokevirtual 106), (762, .istore 6), (764, .aload_n 2), (765, .invokevirtual 74)]
def gx_lw12 : List (Nat × Instr) := [(768, .iload 5), (770, .if_icmp .eq 5), (773, .iconst 0), (774, .ireturn), (775, .iload 5), (777, .ifCond .ne 22), (780, .aload_n 3), (781, .iconst 0), (782, .laload), (783, .iload 6), (785, .ifCond .eq 7), (788, .lconst 1), (789, .goto 4), (792, .lconst 0), (793, .lcmp), (794, .ifCond .eq 5), (797, .iconst 0), (798, .ireturn), (799, .goto 521), (802, .aload_n 1), (803, .aload_n 0), (804, .iload 4), (806, .iconst 1), (807, .iadd), (808, .iaload), (809, .invokevirtual 107), (812, .aload_n 2), (813, .aload_n 0), (814, .iload 4), (816, .iconst 1), (817, .iadd), (818, .iaload), (819, .invokevirtual 111), (822, .if_icmp .eq 498), (825, .iconst 0), (826, .ireturn), (827, .aload_n 1), (828, .invokevirtual 112), (831, .aload_n 2)]
def gx_lw13 : List (Nat × Instr) := [(832, .invokevirtual 115), (835, .if_icmp .eq 485), (838, .iconst 0), (839, .ireturn), (840, .aload_n 1), (841, .invokevirtual 116), (844, .aload_n 2), (845, .invokevirtual 119), (848, .if_icmp .eq 472), (851, .iconst 0), (852, .ireturn), (853, .aload_n 1), (854, .aload_n 0), (855, .iload 4), (857, .iconst 1), (858, .iadd), (859, .iaload), (860, .invokevirtual 120), (863, .aload_n 2), (864, .aload_n 0), (865, .iload 4), (867, .iconst 1), (868, .iadd), (869, .iaload), (870, .invokevirtual 123), (873, .if_icmp .eq 447), (876, .iconst 0), (877, .ireturn), (878, .aload_n 1), (879, .aload_n 0), (880, .iload 4), (882, .iconst 1), (883, .iadd), (884, .iaload), (885, .invokevirtual 124), (888, .aload_n 2), (889, .aload_n 0), (890, .iload 4), (892, .iconst 1), (893, .iadd), (894, .iaload), (895, .invokevirtual 127)]
def gx_lw14 : List (Nat × Instr) := [(898, .if_icmp .eq 422), (901, .iconst 0), (902, .ireturn), (903, .aload_n 1), (904, .aload_n 0), (905, .iload 4), (907, .iconst 1), (908, .iadd), (909, .iaload), (910, .aload_n 0), (911, .iload 4), (913, .iconst 2), (914, .iadd), (915, .iaload), (916, .aload_n 0), (917, .iload 4), (919, .iconst 3), (920, .iadd), (921, .iaload), (922, .aload_n 3), (923, .invokestatic 128), (926, .istore 5), (928, .aload_n 2), (929, .aload_n 0), (930, .iload 4), (932, .iconst 1), (933, .iadd), (934, .iaload), (935, .aload_n 0), (936, .iload 4), (938, .iconst 2), (939, .iadd), (940, .iaload), (941, .aload_n 0), (942, .iload 4), (944, .iconst 3), (945, .iadd), (946, .iaload), (947, .invokevirtual 130), (950, .lstore 6), (952, .aload_n 2), (953, .invokevirtual 74), (956, .iload 5), (958, .if_icmp .eq 5)]
def gx_lw15 : List (Nat × Instr) := [(961, .iconst 0), (962, .ireturn), (963, .iload 5), (965, .ifCond .ne 14), (968, .aload_n 3), (969, .iconst 0), (970, .laload), (971, .lload 6), (973, .lcmp), (974, .ifCond .eq 5), (977, .iconst 0), (978, .ireturn), (979, .goto 341), (982, .aload_n 1), (983, .aload_n 0), (984, .iload 4), (986, .iconst 1), (987, .iadd), (988, .iaload), (989, .aload_n 3), (990, .invokestatic 131), (993, .istore 5), (995, .aload_n 2), (996, .aload_n 0), (997, .iload 4), (999, .iconst 1), (1000, .iadd), (1001, .iaload), (1002, .invokevirtual 133), (1005, .istore 6), (1007, .aload_n 2), (1008, .invokevirtual 74), (1011, .iload 5), (1013, .if_icmp .eq 5), (1016, .iconst 0), (1017, .ireturn), (1018, .iload 5), (1020, .ifCond .ne 15), (1023, .aload_n 3)]
def gx_lw16 : List (Nat × Instr) := [(1024, .iconst 0), (1025, .laload), (1026, .iload 6), (1028, .i2l), (1029, .lcmp), (1030, .ifCond .eq 5), (1033, .iconst 0), (1034, .ireturn), (1035, .goto 285), (1038, .aload_n 1), (1039, .invokevirtual 134), (1042, .aload_n 2), (1043, .invokevirtual 137), (1046, .if_icmp .eq 274), (1049, .iconst 0), (1050, .ireturn), (1051, .aload_n 1), (1052, .aload_n 0), (1053, .iload 4), (1055, .iconst 1), (1056, .iadd), (1057, .iaload), (1058, .aload_n 0), (1059, .iload 4), (1061, .iconst 2), (1062, .iadd), (1063, .iaload), (1064, .aload_n 3), (1065, .invokestatic 138), (1068, .istore 5), (1070, .aload_n 2), (1071, .aload_n 0), (1072, .iload 4), (1074, .iconst 1), (1075, .iadd), (1076, .iaload), (1077, .aload_n 0), (1078, .iload 4), (1080, .iconst 2), (1081, .iadd), (1082, .iaload), (1083, .invokevirtual 140), (1086, .istore 6)]
def gx_lw17 : List (Nat × Instr) := [(1088, .aload_n 2), (1089, .invokevirtual 74), (1092, .iload 5), (1094, .if_icmp .eq 5), (1097, .iconst 0), (1098, .ireturn), (1099, .iload 5), (1101, .ifCond .ne 15), (1104, .aload_n 3), (1105, .iconst 0), (1106, .laload), (1107, .iload 6), (1109, .i2l), (1110, .lcmp), (1111, .ifCond .eq 5), (1114, .iconst 0), (1115, .ireturn), (1116, .goto 204), (1119, .aload_n 1), (1120, .aload_n 3), (1121, .invokestatic 141), (1124, .istore 5), (1126, .aload_n 2), (1127, .invokevirtual 144), (1130, .istore 6), (1132, .aload_n 2), (1133, .invokevirtual 74), (1136, .iload 5), (1138, .if_icmp .eq 5), (1141, .iconst 0), (1142, .ireturn), (1143, .iload 5), (1145, .ifCond .ne 15), (1148, .aload_n 3), (1149, .iconst 0), (1150, .laload), (1151, .iload 6)]
def gx_lw18 : List (Nat × Instr) := [(1153, .i2l), (1154, .lcmp), (1155, .ifCond .eq 5), (1158, .iconst 0), (1159, .ireturn), (1160, .goto 160), (1163, .aload_n 1), (1164, .invokevirtual 145), (1167, .aload_n 2), (1168, .invokevirtual 148), (1171, .if_icmp .eq 149), (1174, .iconst 0), (1175, .ireturn), (1176, .aload_n 1), (1177, .aload_n 0), (1178, .iload 4), (1180, .iconst 1), (1181, .iadd), (1182, .iaload), (1183, .i2l), (1184, .bipush 32), (1186, .lshl), (1187, .aload_n 0), (1188, .iload 4), (1190, .iconst 2), (1191, .iadd), (1192, .iaload), (1193, .i2l), (1194, .ldc2_w 77), (1197, .land), (1198, .lor), (1199, .aload_n 0), (1200, .iload 4), (1202, .iconst 3), (1203, .iadd), (1204, .iaload), (1205, .invokevirtual 149), (1208, .aload_n 2), (1209, .aload_n 0), (1210, .iload 4), (1212, .iconst 1), (1213, .iadd), (1214, .iaload), (1215, .i2l)]
def gx_lw19 : List (Nat × Instr) := [(1216, .bipush 32), (1218, .lshl), (1219, .aload_n 0), (1220, .iload 4), (1222, .iconst 2), (1223, .iadd), (1224, .iaload), (1225, .i2l), (1226, .ldc2_w 77), (1229, .land), (1230, .lor), (1231, .aload_n 0), (1232, .iload 4), (1234, .iconst 3), (1235, .iadd), (1236, .iaload), (1237, .invokevirtual 152), (1240, .if_icmp .eq 80), (1243, .iconst 0), (1244, .ireturn), (1245, .aload_n 1), (1246, .invokevirtual 153), (1249, .aload_n 2), (1250, .invokevirtual 156), (1253, .if_icmp .eq 67), (1256, .iconst 0), (1257, .ireturn), (1258, .aload_n 1), (1259, .aload_n 0), (1260, .iload 4), (1262, .iconst 1), (1263, .iadd), (1264, .iaload), (1265, .aload_n 0), (1266, .iload 4), (1268, .iconst 2), (1269, .iadd), (1270, .iaload), (1271, .invokevirtual 157), (1274, .aload_n 2), (1275, .aload_n 0), (1276, .iload 4), (1278, .iconst 1), (1279, .iadd)]
def gx_lw20 : List (Nat × Instr) := [(1280, .iaload), (1281, .aload_n 0), (1282, .iload 4), (1284, .iconst 2), (1285, .iadd), (1286, .iaload), (1287, .invokevirtual 160), (1290, .if_icmp .eq 30), (1293, .iconst 0), (1294, .ireturn), (1295, .aload_n 1), (1296, .aload_n 0), (1297, .iload 4), (1299, .iconst 1), (1300, .iadd), (1301, .iaload), (1302, .invokevirtual 161), (1305, .aload_n 2), (1306, .aload_n 0), (1307, .iload 4), (1309, .iconst 1), (1310, .iadd), (1311, .iaload), (1312, .invokevirtual 164), (1315, .if_icmp .eq 5), (1318, .iconst 0), (1319, .ireturn), (1320, .iinc 4 6), (1323, .goto (-1300)), (1326, .iconst 1), (1327, .ireturn)]
def gx_e195 : gx_E := (⟨"CopiedGraphsLaw", "law", "([I)Z"⟩, code, (8, (Option.some Jvm.ClassFile.FieldType.boolean), []), (7, 9, 1, 0), [gx_lw0, gx_lw1, gx_lw2, gx_lw3, gx_lw4, gx_lw5, gx_lw6, gx_lw7, gx_lw8, gx_lw9, gx_lw10, gx_lw11, gx_lw12, gx_lw13, gx_lw14, gx_lw15, gx_lw16, gx_lw17, gx_lw18, gx_lw19, gx_lw20])
def gx_row0 : List gx_E := [gx_e0, gx_e1, gx_e2, gx_e3, gx_e4, gx_e5, gx_e6, gx_e7, gx_e8, gx_e9, gx_e10, gx_e11, gx_e12, gx_e13]
def gx_row1 : List gx_E := [gx_e14, gx_e15, gx_e16, gx_e17, gx_e18, gx_e19, gx_e20, gx_e21, gx_e22, gx_e23, gx_e24, gx_e25, gx_e26, gx_e27]
def gx_row2 : List gx_E := [gx_e28, gx_e29, gx_e30, gx_e31, gx_e32, gx_e33, gx_e34, gx_e35, gx_e36, gx_e37, gx_e38, gx_e39, gx_e40, gx_e41]
def gx_row3 : List gx_E := [gx_e42, gx_e43, gx_e44, gx_e45, gx_e46, gx_e47, gx_e48, gx_e49, gx_e50, gx_e51, gx_e52, gx_e53, gx_e54, gx_e55]
def gx_row4 : List gx_E := [gx_e56, gx_e57, gx_e58, gx_e59, gx_e60, gx_e61, gx_e62, gx_e63, gx_e64, gx_e65, gx_e66, gx_e67, gx_e68, gx_e69]
def gx_row5 : List gx_E := [gx_e70, gx_e71, gx_e72, gx_e73, gx_e74, gx_e75, gx_e76, gx_e77, gx_e78, gx_e79, gx_e80, gx_e81, gx_e82, gx_e83]
def gx_row6 : List gx_E := [gx_e84, gx_e85, gx_e86, gx_e87, gx_e88, gx_e89, gx_e90, gx_e91, gx_e92, gx_e93, gx_e94, gx_e95, gx_e96, gx_e97]
def gx_row7 : List gx_E := [gx_e98, gx_e99, gx_e100, gx_e101, gx_e102, gx_e103, gx_e104, gx_e105, gx_e106, gx_e107, gx_e108, gx_e109, gx_e110, gx_e111]
def gx_row8 : List gx_E := [gx_e112, gx_e113, gx_e114, gx_e115, gx_e116, gx_e117, gx_e118, gx_e119, gx_e120, gx_e121, gx_e122, gx_e123, gx_e124, gx_e125]
def gx_row9 : List gx_E := [gx_e126, gx_e127, gx_e128, gx_e129, gx_e130, gx_e131, gx_e132, gx_e133, gx_e134, gx_e135, gx_e136, gx_e137, gx_e138, gx_e139]
def gx_row10 : List gx_E := [gx_e140, gx_e141, gx_e142, gx_e143, gx_e144, gx_e145, gx_e146, gx_e147, gx_e148, gx_e149, gx_e150, gx_e151, gx_e152, gx_e153]
def gx_row11 : List gx_E := [gx_e154, gx_e155, gx_e156, gx_e157, gx_e158, gx_e159, gx_e160, gx_e161, gx_e162, gx_e163, gx_e164, gx_e165, gx_e166, gx_e167]
def gx_row12 : List gx_E := [gx_e168, gx_e169, gx_e170, gx_e171, gx_e172, gx_e173, gx_e174, gx_e175, gx_e176, gx_e177, gx_e178, gx_e179, gx_e180, gx_e181]
def gx_row13 : List gx_E := [gx_e182, gx_e183, gx_e184, gx_e185, gx_e186, gx_e187, gx_e188, gx_e189, gx_e190, gx_e191, gx_e192, gx_e193, gx_e194, gx_e195]
def gx_tb : List (List gx_E) := [gx_row0, gx_row1, gx_row2, gx_row3, gx_row4, gx_row5, gx_row6, gx_row7, gx_row8, gx_row9, gx_row10, gx_row11, gx_row12, gx_row13]
def gx_m0 : gx_E := (⟨"", "", ""⟩, ⟨#[]⟩, (0, none, []), (0, 9, 0, 0), [])
def gx_m (j : Nat) : gx_E := ((gx_tb[j / 14]?).getD []).getD (j % 14) gx_m0
def gx_y (j : Nat) : MethodName := (gx_m j).1
def gx_b (j : Nat) : ByteArray := (gx_m j).2.1
def gx_nl (j : Nat) : Nat := (gx_m j).2.2.1.1
def gx_rt (j : Nat) : Option FieldType := (gx_m j).2.2.1.2.1
def gx_hd (j : Nat) : List (Nat × Nat × Nat × Nat) := (gx_m j).2.2.1.2.2
def gx_mo (j : Nat) : Nat := (gx_m j).2.2.2.1.1
def gx_kd (j : Nat) : Nat := (gx_m j).2.2.2.1.2.1
def gx_np (j : Nat) : Nat := (gx_m j).2.2.2.1.2.2.1
def gx_rc (j : Nat) : Nat := (gx_m j).2.2.2.1.2.2.2
def gx_in (j : Nat) : Bool := gx_kd j == 2
def gx_I (j pc : Nat) : Option Instr := (((gx_m j).2.2.2.2[pc / 64]?).getD []).lookup pc
end
section
/-! A small machine for the bytecode of class, reference and law. Its values are the machine's own, but for references: reference k is the k-th cell that was made since the law began (address ba + k), a float stands for the law's script (address b). -/
def gx_v (ba b : Nat) : Value → Value
  | .ref k => .ref (ba + k)
  | .float _ => .ref b
  | v => v
abbrev gx_C : Type := Nat × List Value
abbrev gx_H : Type := List gx_C
abbrev gx_L : Type := List (Nat × Value)
def gx_l (ba b : Nat) (L : gx_L) : gx_L := L.map (fun q => (q.1, gx_v ba b q.2))
def gx_t (ba b : Nat) (st : List Value) : List Value := st.map (gx_v ba b)
theorem gx_v_cat (ba b : Nat) (v : Value) : (gx_v ba b v).category = v.category := by cases v <;> rfl
theorem gx_t_cat (ba b : Nat) (st : List Value) : ((gx_t ba b st).map fun v => v.category).sum = (st.map fun v => v.category).sum := by
  unfold gx_t
  rw [List.map_map]
  congr 1
  exact List.map_congr_left fun v _ => gx_v_cat ba b v
/-- locals: what is stored over what was there -/
def gx_s1 (L : gx_L) (i : Nat) (v : Value) : gx_L := (i, v) :: L.filter (fun q => !(q.1 == i) && !(q.1 + 1 == i && q.2.category == 2))
def gx_s2 (L : gx_L) (i : Nat) (v : Value) : gx_L := (i, v) :: L.filter (fun q => !(q.1 == i) && (!(q.1 == i + 1) && !(q.1 + 1 == i && q.2.category == 2)))
theorem gx_l_s1 (ba b : Nat) (L : gx_L) (i : Nat) (v : Value) : (i, gx_v ba b v) :: (gx_l ba b L).filter (fun q => !(q.1 == i) && !(q.1 + 1 == i && q.2.category == 2)) = gx_l ba b (gx_s1 L i v) := by
  unfold gx_l gx_s1
  rw [List.map_cons, List.filter_map]
  congr 2
  refine List.filter_congr fun q _ => ?_
  simp [Function.comp, gx_v_cat]
theorem gx_l_s2 (ba b : Nat) (L : gx_L) (i : Nat) (v : Value) : (i, gx_v ba b v) :: (gx_l ba b L).filter (fun q => !(q.1 == i) && (!(q.1 == i + 1) && !(q.1 + 1 == i && q.2.category == 2))) = gx_l ba b (gx_s2 L i v) := by
  unfold gx_l gx_s2
  rw [List.map_cons, List.filter_map]
  congr 2
  refine List.filter_congr fun q _ => ?_
  simp [Function.comp, gx_v_cat]
theorem gx_look {L : gx_L} {i : Nat} {v : Value} (h : L.lookup i = some v) : (i, v) ∈ L := by
  induction L with
  | nil => cases h
  | cons q r ih =>
    obtain ⟨a, w⟩ := q
    rw [List.lookup_cons] at h
    split at h
    · rename_i e
      have e : i = a := by simpa using e
      cases h
      rw [e]
      exact List.mem_cons_self
    · exact List.mem_cons_of_mem _ (ih h)
theorem gx_at_l {ls : Array Slot} {nL : Nat} {ba b : Nat} {L : gx_L} (h : lv_has ls nL (gx_l ba b L)) {i : Nat} {v : Value} (hv : L.lookup i = some v) : ls[i]? = some (.val (gx_v ba b v)) :=
  h.2.2 (i, gx_v ba b v) (List.mem_map.mpr ⟨(i, v), gx_look hv, rfl⟩)
theorem gx_ix_l {ba b : Nat} {L : gx_L} {i : Nat} {v : Value} (hv : L.lookup i = some v) : ∃ k : Nat, (gx_l ba b L)[k]? = some (i, gx_v ba b v) :=
  List.getElem?_of_mem (List.mem_map.mpr ⟨(i, v), gx_look hv, rfl⟩)
/-- stacks by their tops -/
def gx_a1 : List Value → Option (Int32 × List Value)
  | .int x :: r => some (x, r)
  | _ => none
def gx_a2 : List Value → Option (Int32 × Int32 × List Value)
  | .int y :: .int x :: r => some (y, x, r)
  | _ => none
def gx_b1 : List Value → Option (Int64 × List Value)
  | .long x :: r => some (x, r)
  | _ => none
def gx_b2 : List Value → Option (Int64 × Int64 × List Value)
  | .long y :: .long x :: r => some (y, x, r)
  | _ => none
def gx_ab : List Value → Option (Int32 × Int64 × List Value)
  | .int y :: .long x :: r => some (y, x, r)
  | _ => none
def gx_r1 : List Value → Option (Nat × List Value)
  | .ref x :: r => some (x, r)
  | _ => none
theorem gx_a1_e {st r : List Value} {x : Int32} (h : gx_a1 st = some (x, r)) : st = .int x :: r := by
  unfold gx_a1 at h; split at h <;> first | (cases h; rfl) | cases h
theorem gx_a2_e {st r : List Value} {x y : Int32} (h : gx_a2 st = some (y, x, r)) : st = .int y :: .int x :: r := by
  unfold gx_a2 at h; split at h <;> first | (cases h; rfl) | cases h
theorem gx_b1_e {st r : List Value} {x : Int64} (h : gx_b1 st = some (x, r)) : st = .long x :: r := by
  unfold gx_b1 at h; split at h <;> first | (cases h; rfl) | cases h
theorem gx_b2_e {st r : List Value} {x y : Int64} (h : gx_b2 st = some (y, x, r)) : st = .long y :: .long x :: r := by
  unfold gx_b2 at h; split at h <;> first | (cases h; rfl) | cases h
theorem gx_ab_e {st r : List Value} {x : Int64} {y : Int32} (h : gx_ab st = some (y, x, r)) : st = .int y :: .long x :: r := by
  unfold gx_ab at h; split at h <;> first | (cases h; rfl) | cases h
theorem gx_r1_e {st r : List Value} {x : Nat} (h : gx_r1 st = some (x, r)) : st = .ref x :: r := by
  unfold gx_r1 at h; split at h <;> first | (cases h; rfl) | cases h
/-- arithmetic: what an instruction makes of the numbers on top -/
def gx_fa2 : Instr → Option (Int32 → Int32 → Int32)
  | .iadd => some fun x y => x + y
  | .isub => some fun x y => x - y
  | .imul => some fun x y => x * y
  | .iand => some fun x y => x &&& y
  | .ior => some fun x y => x ||| y
  | .ixor => some fun x y => x ^^^ y
  | .ishl => some fun x y => x <<< (y &&& 31)
  | .ishr => some fun x y => x >>> (y &&& 31)
  | .iushr => some fun x y => (x.toUInt32 >>> (y.toUInt32 &&& Int32.toUInt32 31)).toInt32
  | _ => none
def gx_fb2 : Instr → Option (Int64 → Int64 → Int64)
  | .ladd => some fun x y => x + y
  | .lsub => some fun x y => x - y
  | .lmul => some fun x y => x * y
  | .land => some fun x y => x &&& y
  | .lor => some fun x y => x ||| y
  | .lxor => some fun x y => x ^^^ y
  | _ => none
def gx_fab : Instr → Option (Int64 → Int32 → Int64)
  | .lshl => some fun x y => x <<< (y.toInt64 &&& 63)
  | .lshr => some fun x y => x >>> (y.toInt64 &&& 63)
  | .lushr => some fun x y => (x.toUInt64 >>> (y.toInt64.toUInt64 &&& Int64.toUInt64 63)).toInt64
  | _ => none
def gx_c1 : ClassFile.Cond → Int32 → Bool
  | .eq, x => decide (x = 0)
  | .ne, x => decide (¬ x = 0)
  | .lt, x => decide (x < 0)
  | .ge, x => decide (0 ≤ x)
  | .gt, x => decide (0 < x)
  | .le, x => decide (x ≤ 0)
def gx_c2 : ClassFile.Cond → Int32 → Int32 → Bool
  | .eq, x, y => decide (x = y)
  | .ne, x, y => decide (¬ x = y)
  | .lt, x, y => decide (x < y)
  | .ge, x, y => decide (y ≤ x)
  | .gt, x, y => decide (y < x)
  | .le, x, y => decide (x ≤ y)
/-- a jump's aim -/
def gx_j (pc : Nat) (off : Int) : Option Nat := if 0 ≤ (pc : Int) + off then some ((pc : Int) + off).toNat else none
theorem gx_j_e {pc t : Nat} {off : Int} (h : gx_j pc off = some t) : (pc : Int) + off = (t : Int) := by
  unfold gx_j at h
  split at h
  · cases h; omega
  · cases h
/-- how long an instruction is, switches aside -/
def gx_len : Instr → Nat
  | .bipush _ | .iload _ | .lload _ | .aload _ | .istore _ | .lstore _ | .astore _ | .ldc _ | .newarray _ => 2
  | .sipush _ | .iinc _ _ | .if_icmp _ _ | .ifCond _ _ | .ifnull _ | .ifnonnull _ | .goto _ | .getfield _ | .putfield _ | .ldc2_w _ | .ldc_w _ | .new _ | .anewarray _ | .invokevirtual _ | .invokestatic _ | .invokespecial _ => 3
  | .multianewarray _ _ => 4
  | _ => 1
def gx_lok (ins : Instr) (len : Nat) : Bool := match ins with
  | .tableswitch _ _ _ _ | .lookupswitch _ _ => true
  | _ => len == gx_len ins
/-- a switch's offset -/
def gx_tab (d lo hi : Int) (offs : Array Int) (x : Int32) : Option Int := if x.toInt < lo then some d else if hi < x.toInt then some d else offs[(x.toInt - lo).toNat]?
end
section
/-! what a program decides of the tables -/
/-- words that hold at every later state of the tables, too -/
def gx_mv (w : Jvm.Cond) : Bool := (w.onTables && w.keeps) || match w with
  | .arrayClass _ | .methodLinkNest _ _ _ _ | .castable _ _ | .declares _ | .arrayOver _ | .laysStatic _ _ _ => true
  | _ => false
def gx_words : List Jvm.Cond := lw_tbl.filter gx_mv
theorem gx_pick {ws : List Jvm.Cond} {is : List Nat} (h : ws = is.filterMap (fun i => lw_tbl[i]?)) (hm : ws.all gx_mv = true) {w : Jvm.Cond} (hw : w ∈ ws) : w ∈ gx_words := by
  refine List.mem_filter.mpr ⟨?_, List.all_eq_true.mp hm w hw⟩
  rw [h] at hw
  obtain ⟨i, -, hi⟩ := List.mem_filterMap.mp hw
  exact List.mem_of_getElem? hi
def gx_fw (z : Nat × Nat × Nat × Nat) : Jvm.Cond := match gx_cl[z.2.2.1]? with
  | some r => .fieldLink (gx_o z.1) z.2.1 (r.2.1 z.2.2.2).1 (r.2.1 z.2.2.2).2.1 (r.2.1 z.2.2.2).2.2.1
  | none => .tt
def gx_nw (z : Nat × Nat × Nat) : List Jvm.Cond := match gx_cl[z.2.2]? with
  | some r => [.classLink (gx_o z.1) z.2.1 r.1, .instantiable r.1 r.2.2, .initialized r.1]
  | none => []
def gx_mw (z : gx_E) : List Jvm.Cond := if z.2.2.2.1.2.1 = 9 then [] else
  (if z.2.2.1.2.2 = [] then .code z.1 z.2.1 z.2.2.1.1 z.2.2.1.2.1 else .codeWith z.1 z.2.1 z.2.2.1.1 z.2.2.1.2.1 z.2.2.1.2.2) :: .initialized z.1.cls ::
  (if z.2.2.2.1.2.1 = 0 then [.static z.1] else if z.2.2.2.1.2.1 = 1 then [.instanceMethod z.1, .selects z.1.cls z.1 z.1] else [.instanceMethod z.1])
theorem gx_cF : gx_FT.map gx_fw = [126, 127, 128, 129, 130, 131, 132, 133, 134, 135, 136, 137, 138, 139, 140, 141, 142, 143, 144, 145, 146, 147, 148, 149, 150, 151, 152, 153, 154, 155, 156, 157, 182, 183, 184, 185, 186, 198, 199, 200, 201, 202, 203, 204, 216, 217, 218, 219, 220, 221, 222, 223, 224, 225, 248, 249, 250, 251, 252, 253, 271, 272, 273, 274, 275, 276, 277, 278, 279, 295, 296, 297, 298, 299, 300, 915, 916, 917, 918, 919, 920, 921, 922, 923, 924, 925, 926, 927, 928, 929, 930, 931, 932, 933, 934, 935, 936, 937, 938, 939, 940, 941, 942, 943, 944, 945, 946, 947, 948, 949, 950, 951].filterMap (fun i => lw_tbl[i]?) ∧ (gx_FT.map gx_fw).all gx_mv = true := by decide +kernel
theorem gx_cKL : gx_KL.map (fun z => Jvm.Cond.constantLong (gx_o z.1) z.2.1 z.2.2) = [656, 719, 1052, 1161, 1197, 1324].filterMap (fun i => lw_tbl[i]?) ∧ (gx_KL.map (fun z => Jvm.Cond.constantLong (gx_o z.1) z.2.1 z.2.2)).all gx_mv = true := by decide +kernel
theorem gx_cN : gx_CT.flatMap gx_nw = [105, 106, 88, 113, 114, 89, 119, 121, 90, 192, 193, 91, 210, 211, 92, 238, 239, 93, 244, 193, 91, 265, 266, 94, 909, 910, 95].filterMap (fun i => lw_tbl[i]?) ∧ (gx_CT.flatMap gx_nw).all gx_mv = true := by decide +kernel
theorem gx_cC : gx_cl.flatMap (fun r => u_ws r.1 r.2.1 r.2.2) = [301, 303, 305, 307, 309, 311, 187, 189, 158, 160, 162, 164, 166, 168, 170, 172, 174, 176, 178, 205, 207, 226, 228, 230, 232, 234, 254, 256, 258, 260, 262, 280, 282, 284, 286, 288, 290, 292, 952, 954, 956, 958, 960, 962, 964, 966, 968, 970, 972, 974, 976, 978, 980, 982, 984, 986, 988, 990, 992, 994, 996, 998, 1000, 1002, 1004, 1006, 1008, 1010, 1012, 1014, 1016, 1018, 1020, 1022, 1024].filterMap (fun i => lw_tbl[i]?) ∧ (gx_cl.flatMap (fun r => u_ws r.1 r.2.1 r.2.2)).all gx_mv = true := by decide +kernel
def gx_sw1 (z : Nat × Nat × Nat × Bool) : Jvm.Cond := if z.2.2.2 = true then .methodLinkNest (gx_o z.1) z.2.1 (gx_y z.2.2.1) gx_host else .methodLink (gx_o z.1) z.2.1 (gx_y z.2.2.1)
theorem gx_cS : gx_MT.map gx_sw1 = [107, 115, 122, 194, 212, 240, 245, 267, 314, 318, 322, 326, 330, 334, 338, 342, 343, 347, 351, 355, 359, 362, 366, 370, 374, 378, 383, 456, 460, 464, 484, 487, 492, 496, 499, 503, 508, 512, 515, 519, 522, 526, 530, 534, 537, 539, 542, 546, 550, 553, 557, 561, 565, 570, 573, 578, 582, 586, 589, 594, 599, 602, 607, 611, 616, 620, 624, 644, 648, 652, 657, 658, 662, 665, 670, 675, 679, 683, 687, 688, 692, 693, 697, 701, 705, 706, 710, 714, 715, 720, 721, 725, 729, 733, 740, 741, 745, 749, 752, 755, 756, 757, 758, 762, 766, 770, 774, 778, 779, 782, 786, 787, 809, 812, 816, 820, 824, 828, 829, 830, 831, 835, 839, 843, 847, 851, 855, 859, 863, 867, 868, 872, 876, 877, 878, 882, 886, 887, 888, 892, 893, 897, 898, 902, 903, 904, 911, 1028, 1032, 1036, 1040, 1044, 1048, 1053, 1057, 1061, 1065, 1068, 1071, 1075, 1079, 1083, 1087, 1090, 1094, 1098, 1102, 1106, 1109, 1113, 1117, 1121, 1125, 1129, 1133, 1137, 1141, 1145, 1149, 1153, 1157, 1162, 1166, 1170, 1174, 1178, 1182, 1186, 1190, 1193, 1198, 1201, 1205, 1209, 1213, 1217, 1221, 1225, 1229, 1233, 1237, 1241, 1245, 1249, 1253, 1257, 1261, 1264, 1268, 1272, 1276, 1280, 1284, 1288, 1292, 1296, 1300, 1304, 1308, 1312, 1316, 1320].filterMap (fun i => lw_tbl[i]?) ∧ (gx_MT.map gx_sw1).all gx_mv = true := by decide +kernel
theorem gx_cM0 : gx_row0.flatMap gx_mw = [109, 88, 108, 117, 89, 116, 124, 90, 123, 196, 91, 195, 214, 92, 213, 242, 93, 241, 269, 94, 268, 317, 88, 315, 316, 321, 89, 319, 320, 325, 89, 323, 324, 329, 89, 327, 328, 333, 88, 331, 332, 337, 88, 335, 336, 341, 88, 339, 340].filterMap (fun i => lw_tbl[i]?) ∧ (gx_row0.flatMap gx_mw).all gx_mv = true := by decide +kernel
theorem gx_cM1 : gx_row1.flatMap gx_mw = [346, 88, 344, 345, 350, 88, 348, 349, 354, 88, 352, 353, 358, 88, 356, 357, 361, 88, 360, 365, 91, 363, 364, 369, 88, 367, 368, 373, 88, 371, 372, 377, 88, 375, 376, 380, 87, 379, 386, 88, 384, 385, 459, 88, 458, 1, 463, 89, 461, 462, 467, 90, 465, 466].filterMap (fun i => lw_tbl[i]?) ∧ (gx_row1.flatMap gx_mw).all gx_mv = true := by decide +kernel
theorem gx_cM2 : gx_row2.flatMap gx_mw = [486, 87, 485, 490, 88, 488, 489, 495, 90, 493, 494, 498, 87, 497, 502, 88, 500, 501, 506, 90, 504, 505, 511, 90, 509, 510, 514, 87, 513, 518, 88, 516, 517, 521, 87, 520, 525, 88, 523, 524, 529, 88, 528, 2, 533, 89, 531, 532, 536, 89, 535].filterMap (fun i => lw_tbl[i]?) ∧ (gx_row2.flatMap gx_mw).all gx_mv = true := by decide +kernel
theorem gx_cM3 : gx_row3.flatMap gx_mw = [541, 88, 540, 545, 90, 543, 544, 549, 90, 548, 3, 552, 101, 551, 556, 90, 554, 555, 560, 90, 558, 559, 564, 90, 563, 4, 568, 90, 567, 5, 572, 87, 571, 576, 88, 574, 575, 581, 90, 579, 580, 585, 90, 583, 584, 588, 87, 587, 592, 88, 590, 591].filterMap (fun i => lw_tbl[i]?) ∧ (gx_row3.flatMap gx_mw).all gx_mv = true := by decide +kernel
theorem gx_cM4 : gx_row4.flatMap gx_mw = [597, 90, 595, 596, 601, 87, 600, 605, 88, 603, 604, 610, 90, 608, 609, 614, 90, 612, 613, 618, 87, 617, 623, 88, 621, 622, 627, 90, 625, 626, 647, 90, 645, 646, 651, 90, 650, 6, 655, 90, 654, 7, 661, 90, 660, 8, 664, 87, 663, 668, 88, 666, 667].filterMap (fun i => lw_tbl[i]?) ∧ (gx_row4.flatMap gx_mw).all gx_mv = true := by decide +kernel
theorem gx_cM5 : gx_row5.flatMap gx_mw = [673, 92, 671, 672, 677, 87, 676, 682, 88, 680, 681, 686, 93, 684, 685, 691, 92, 689, 690, 696, 92, 694, 695, 700, 92, 698, 699, 704, 93, 703, 9, 709, 93, 708, 10, 713, 93, 712, 11, 718, 93, 717, 12, 724, 93, 723, 13, 728, 93, 727, 14, 732, 93, 731, 15].filterMap (fun i => lw_tbl[i]?) ∧ (gx_row5.flatMap gx_mw).all gx_mv = true := by decide +kernel
theorem gx_cM6 : gx_row6.flatMap gx_mw = [736, 93, 735, 16, 744, 93, 743, 17, 748, 93, 747, 18, 751, 101, 750, 754, 101, 753, 761, 93, 760, 19, 765, 93, 764, 20, 769, 93, 768, 21, 773, 93, 772, 22, 777, 93, 776, 23, 781, 93, 780, 785, 92, 783, 784, 790, 91, 788, 789, 811, 87, 810].filterMap (fun i => lw_tbl[i]?) ∧ (gx_row6.flatMap gx_mw).all gx_mv = true := by decide +kernel
theorem gx_cM7 : gx_row7.flatMap gx_mw = [815, 88, 813, 814, 819, 94, 817, 818, 823, 94, 822, 24, 827, 94, 826, 25, 834, 94, 833, 26, 838, 94, 837, 27, 842, 94, 841, 28, 846, 94, 845, 29, 850, 94, 849, 30, 854, 94, 853, 31, 858, 94, 857, 32, 862, 94, 861, 33, 866, 94, 865, 34, 871, 94, 870, 35].filterMap (fun i => lw_tbl[i]?) ∧ (gx_row7.flatMap gx_mw).all gx_mv = true := by decide +kernel
theorem gx_cM8 : gx_row8.flatMap gx_mw = [875, 94, 874, 36, 881, 94, 880, 37, 885, 94, 884, 38, 891, 94, 890, 39, 896, 94, 895, 40, 901, 94, 900, 41, 907, 94, 906, 42, 913, 95, 912, 1031, 95, 1029, 1030, 1035, 95, 1033, 1034, 1039, 95, 1038, 43, 1043, 95, 1042, 44, 1047, 95, 1046, 45, 1051, 95, 1049, 1050].filterMap (fun i => lw_tbl[i]?) ∧ (gx_row8.flatMap gx_mw).all gx_mv = true := by decide +kernel
theorem gx_cM9 : gx_row9.flatMap gx_mw = [1056, 95, 1054, 1055, 1060, 95, 1059, 46, 1064, 95, 1063, 47, 1067, 95, 1066, 1070, 95, 1069, 1074, 95, 1073, 48, 1078, 95, 1076, 1077, 1082, 95, 1080, 1081, 1086, 95, 1085, 49, 1089, 95, 1088, 1093, 95, 1092, 50, 1097, 95, 1096, 51, 1101, 95, 1100, 52, 1105, 95, 1104, 53].filterMap (fun i => lw_tbl[i]?) ∧ (gx_row9.flatMap gx_mw).all gx_mv = true := by decide +kernel
theorem gx_cM10 : gx_row10.flatMap gx_mw = [1108, 95, 1107, 1112, 95, 1110, 1111, 1116, 95, 1115, 54, 1120, 95, 1118, 1119, 1124, 95, 1123, 55, 1128, 95, 1126, 1127, 1132, 95, 1131, 56, 1136, 95, 1134, 1135, 1140, 95, 1139, 57, 1144, 95, 1142, 1143, 1148, 95, 1146, 1147, 1152, 95, 1150, 1151, 1156, 95, 1154, 1155, 1160, 95, 1158, 1159].filterMap (fun i => lw_tbl[i]?) ∧ (gx_row10.flatMap gx_mw).all gx_mv = true := by decide +kernel
theorem gx_cM11 : gx_row11.flatMap gx_mw = [1165, 95, 1163, 1164, 1169, 95, 1167, 1168, 1173, 95, 1171, 1172, 1177, 95, 1176, 58, 1181, 95, 1180, 59, 1185, 95, 1184, 60, 1189, 95, 1188, 61, 1192, 95, 1191, 1196, 95, 1195, 62, 1200, 95, 1199, 1204, 95, 1203, 63, 1208, 95, 1207, 64, 1212, 95, 1211, 65, 1216, 95, 1215, 66].filterMap (fun i => lw_tbl[i]?) ∧ (gx_row11.flatMap gx_mw).all gx_mv = true := by decide +kernel
theorem gx_cM12 : gx_row12.flatMap gx_mw = [1220, 95, 1219, 67, 1224, 95, 1223, 68, 1228, 95, 1227, 69, 1232, 95, 1230, 1231, 1236, 95, 1235, 70, 1240, 95, 1239, 71, 1244, 95, 1243, 72, 1248, 95, 1247, 73, 1252, 95, 1251, 74, 1256, 95, 1255, 75, 1260, 95, 1259, 76, 1263, 95, 1262, 1267, 95, 1266, 77, 1271, 95, 1270, 78].filterMap (fun i => lw_tbl[i]?) ∧ (gx_row12.flatMap gx_mw).all gx_mv = true := by decide +kernel
theorem gx_cM13 : gx_row13.flatMap gx_mw = [1275, 95, 1274, 79, 1279, 95, 1278, 80, 1283, 95, 1282, 81, 1287, 95, 1286, 82, 1291, 95, 1290, 83, 1295, 95, 1294, 84, 1299, 95, 1298, 85, 1303, 95, 1302, 86, 1307, 95, 1305, 1306, 1311, 95, 1309, 1310, 1315, 95, 1313, 1314, 1319, 95, 1317, 1318, 1323, 95, 1321, 1322].filterMap (fun i => lw_tbl[i]?) ∧ (gx_row13.flatMap gx_mw).all gx_mv = true := by decide +kernel
theorem gx_cA : ([.arrayClass .boolean, .arrayClass .int, .arrayClass .long] : List Jvm.Cond) = [1027, 181, 237].filterMap (fun i => lw_tbl[i]?) ∧ ([.arrayClass .boolean, .arrayClass .int, .arrayClass .long] : List Jvm.Cond).all gx_mv = true := by decide +kernel
theorem gx_cO : ([.arrayOver (.object gx_elem)] : List Jvm.Cond) = [120].filterMap (fun i => lw_tbl[i]?) ∧ ([.arrayOver (.object gx_elem)] : List Jvm.Cond).all gx_mv = true := by decide +kernel
def gx_chk (code : ByteArray) (l : List (Nat × Instr)) : Bool := l.all (fun z => match decode code z.1 with
  | .ok (i, len) => decide (i = z.2) && gx_lok z.2 len
  | _ => false)
def gx_eok (z : gx_E) : Bool := z.2.2.2.2.all (gx_chk z.2.1) && (plainFor z.1 && (decide ((parseMethodDescriptor z.1.desc).map (fun d => d.parameters.length) = some z.2.2.2.1.2.2.1) &&
  (decide (z.1.cls ≠ "java/lang/invoke/MethodHandle" ∧ z.1.cls ≠ "java/lang/invoke/VarHandle") && (decide (z.1.cls = gx_o z.2.2.2.1.1) && (decide (z.2.2.2.1.2.1 = 1 → (gx_cl[z.2.2.2.1.2.2.2]?).map (fun r => r.1) = some z.1.cls ∧ z.2.2.2.1.2.2.2 < 100) &&
  (decide (z.2.2.2.1.2.1 = 2 → z.1.name = "<init>" ∧ z.2.2.1.2.1 = none ∧ z.2.2.1.2.2 = []) && decide (z.2.2.1.1 ≤ 80)))))))
end
section
theorem gx_ck0 : gx_row0.all gx_eok = true := by decide +kernel
theorem gx_ck1 : gx_row1.all gx_eok = true := by decide +kernel
theorem gx_ck2 : gx_row2.all gx_eok = true := by decide +kernel
theorem gx_ck3 : gx_row3.all gx_eok = true := by decide +kernel
theorem gx_ck4 : gx_row4.all gx_eok = true := by decide +kernel
end
section
theorem gx_ck5 : gx_row5.all gx_eok = true := by decide +kernel
theorem gx_ck6 : gx_row6.all gx_eok = true := by decide +kernel
theorem gx_ck7 : gx_row7.all gx_eok = true := by decide +kernel
theorem gx_ck8 : gx_row8.all gx_eok = true := by decide +kernel
end
section
theorem gx_ck9 : gx_row9.all gx_eok = true := by decide +kernel
theorem gx_ck10 : gx_row10.all gx_eok = true := by decide +kernel
theorem gx_ck11 : gx_row11.all gx_eok = true := by decide +kernel
theorem gx_ck12 : gx_row12.all gx_eok = true := by decide +kernel
end
section
theorem gx_lb0 : gx_chk code gx_lw0 = true := by decide +kernel
theorem gx_lb1 : gx_chk code gx_lw1 = true := by decide +kernel
theorem gx_lb2 : gx_chk code gx_lw2 = true := by decide +kernel
theorem gx_lb3 : gx_chk code gx_lw3 = true := by decide +kernel
theorem gx_lb4 : gx_chk code gx_lw4 = true := by decide +kernel
theorem gx_lb5 : gx_chk code gx_lw5 = true := by decide +kernel
theorem gx_lb6 : gx_chk code gx_lw6 = true := by decide +kernel
theorem gx_lb7 : gx_chk code gx_lw7 = true := by decide +kernel
theorem gx_lb8 : gx_chk code gx_lw8 = true := by decide +kernel
theorem gx_lb9 : gx_chk code gx_lw9 = true := by decide +kernel
end
section
theorem gx_lb10 : gx_chk code gx_lw10 = true := by decide +kernel
theorem gx_lb11 : gx_chk code gx_lw11 = true := by decide +kernel
theorem gx_lb12 : gx_chk code gx_lw12 = true := by decide +kernel
theorem gx_lb13 : gx_chk code gx_lw13 = true := by decide +kernel
theorem gx_lb14 : gx_chk code gx_lw14 = true := by decide +kernel
theorem gx_lb15 : gx_chk code gx_lw15 = true := by decide +kernel
theorem gx_lb16 : gx_chk code gx_lw16 = true := by decide +kernel
theorem gx_lb17 : gx_chk code gx_lw17 = true := by decide +kernel
theorem gx_lb18 : gx_chk code gx_lw18 = true := by decide +kernel
theorem gx_lb19 : gx_chk code gx_lw19 = true := by decide +kernel
theorem gx_lb20 : gx_chk code gx_lw20 = true := by decide +kernel
theorem gx_lbs : [gx_lw0, gx_lw1, gx_lw2, gx_lw3, gx_lw4, gx_lw5, gx_lw6, gx_lw7, gx_lw8, gx_lw9, gx_lw10, gx_lw11, gx_lw12, gx_lw13, gx_lw14, gx_lw15, gx_lw16, gx_lw17, gx_lw18, gx_lw19, gx_lw20].all (gx_chk code) = true := by
  simp only [List.all_cons, List.all_nil, gx_lb0, gx_lb1, gx_lb2, gx_lb3, gx_lb4, gx_lb5, gx_lb6, gx_lb7, gx_lb8, gx_lb9, gx_lb10, gx_lb11, gx_lb12, gx_lb13, gx_lb14, gx_lb15, gx_lb16, gx_lb17, gx_lb18, gx_lb19, gx_lb20, Bool.and_self]
theorem gx_ckL : gx_eok gx_e195 = true := by
  unfold gx_eok
  rw [Bool.and_eq_true]
  exact ⟨gx_lbs, by decide +kernel⟩
theorem gx_ck13a : [gx_e182, gx_e183, gx_e184, gx_e185, gx_e186, gx_e187, gx_e188, gx_e189, gx_e190, gx_e191, gx_e192, gx_e193, gx_e194].all gx_eok = true := by decide +kernel
theorem gx_ck13 : gx_row13.all gx_eok = true := by
  show ([gx_e182, gx_e183, gx_e184, gx_e185, gx_e186, gx_e187, gx_e188, gx_e189, gx_e190, gx_e191, gx_e192, gx_e193, gx_e194] ++ [gx_e195]).all gx_eok = true
  rw [List.all_append, gx_ck13a, Bool.true_and, List.all_cons, gx_ckL]
  rfl
end
section
def gx_wl1 : List Jvm.Cond := gx_OT.map (fun z => Jvm.Cond.methodLink (gx_o z.1) z.2.1 objectInit) ++ [.instanceMethod objectInit, .code objectInit ⟨#[0xb1]⟩ 1 none]
theorem gx_cOI : gx_wl1 = [110, 118, 125, 197, 215, 243, 270, 914, 111, 112].filterMap (fun i => lw_tbl[i]?) ∧ gx_wl1.all gx_mv = true := by decide +kernel
def gx_wl2 : List Jvm.Cond := gx_AT.map (fun z => Jvm.Cond.methodLink (gx_o z.1) z.2.1 arraycopyName) ++ [.native arraycopyName, .static arraycopyName, .initialized "java/lang/System"]
theorem gx_cAC : gx_wl2 = [737, 791, 739, 738, 103].filterMap (fun i => lw_tbl[i]?) ∧ gx_wl2.all gx_mv = true := by decide +kernel
def gx_wl3 : List Jvm.Cond := gx_RT.map (fun z => Jvm.Cond.classLink (gx_o z.1) z.2.1 ("[" ++ (FieldType.array .int).toString)) ++ [.arrayOver (.array .int)]
theorem gx_cMU : gx_wl3 = [246, 247].filterMap (fun i => lw_tbl[i]?) ∧ gx_wl3.all gx_mv = true := by decide +kernel
end
section
/-! throw new X("..") -/
def gx_isr : Jvm.Cond → Bool
  | .isRef _ => true
  | _ => false
def gx_up : List String := ["java/lang/RuntimeException", "java/lang/Exception"]
def gx_xn (t : Nat) : String := ((gx_cl[t]?).map (fun r => r.1)).getD ""
def gx_XK : List (Nat × Nat × Nat) := [(0, 52, 8), (0, 113, 9), (0, 169, 10)]
theorem gx_ow8 : (Bundle.ownAtoms (gx_o 0) 52 (gx_xn 8) gx_up).all (fun w => gx_isr w || (decide (w ∈ lw_tbl) && gx_mv w)) = true := by decide +kernel
theorem gx_ow9 : (Bundle.ownAtoms (gx_o 0) 113 (gx_xn 9) gx_up).all (fun w => gx_isr w || (decide (w ∈ lw_tbl) && gx_mv w)) = true := by decide +kernel
theorem gx_ow10 : (Bundle.ownAtoms (gx_o 0) 169 (gx_xn 10) gx_up).all (fun w => gx_isr w || (decide (w ∈ lw_tbl) && gx_mv w)) = true := by decide +kernel
theorem gx_owA : ∀ z ∈ gx_XK, (Bundle.ownAtoms (gx_o z.1) z.2.1 (gx_xn z.2.2) gx_up).all (fun w => gx_isr w || (decide (w ∈ lw_tbl) && gx_mv w)) = true := by
  intro z hz
  unfold gx_XK at hz
  simp only [List.mem_cons, List.not_mem_nil, or_false] at hz
  rcases hz with rfl | rfl | rfl
  · exact gx_ow8
  · exact gx_ow9
  · exact gx_ow10
theorem gx_fitA : ∀ z ∈ gx_XK, Bundle.fit (gx_xn z.2.2) = true ∧ z.2.2 < 100 := by decide +kernel
theorem gx_fitU : ∀ n ∈ gx_up, Bundle.fit n = true := by decide +kernel
def gx_XC : List (Nat × Nat × Nat) := [(0, 48, 8), (0, 109, 9), (0, 165, 10)]
def gx_xw (z : Nat × Nat × Nat) : List Jvm.Cond := [.classLink (gx_o z.1) z.2.1 (gx_xn z.2.2), .instantiable (gx_xn z.2.2) 6, .initialized (gx_xn z.2.2)]
theorem gx_cXC : gx_XC.flatMap gx_xw = [387, 388, 99, 468, 469, 100, 628, 629, 102].filterMap (fun i => lw_tbl[i]?) ∧ (gx_XC.flatMap gx_xw).all gx_mv = true := by decide +kernel
def gx_ST : List (Nat × Nat × String) := [(0, 50, "no such type can be made empty"), (0, 229, "there are 32 objects"), (0, 59, "a buffer has 0 to 8 bytes"), (0, 79, "no such view"), (0, 93, "no record or list, no such value, or no such place"), (0, 111, "the record has 6 others"), (0, 114, "neither a record nor a list"), (0, 127, "no map, or no such key or value"), (0, 133, "the map has 4 others"), (0, 135, "no set, or no such value"), (0, 143, "the set has 5 others"), (0, 167, "there is none such"), (0, 174, "no such object"), (0, 179, "4 are passed already"), (0, 196, "no such value, or it can't be written"), (0, 200, "a getter throws"), (0, 207, "the bytes are wrong")]
theorem gx_cST : gx_ST.map (fun z => Jvm.Cond.stringRef (gx_o z.1) z.2.1 z.2.2) = [429, 477, 491, 507, 538, 569, 577, 593, 598, 606, 615, 637, 669, 674, 792, 802, 908].filterMap (fun i => lw_tbl[i]?) := by decide +kernel
def gx_TH3 : List (Nat × Nat × Nat × Nat × Nat) := gx_TH.filter (fun z => z.2.2.2.2 != 11)
/-- a throw site: its class, text and constructor -/
theorem gx_THok : ∀ z ∈ gx_TH3, (z.1, z.2.1, z.2.2.2.2) ∈ gx_XC ∧ (z.1, z.2.2.2.1, z.2.2.2.2) ∈ gx_XK ∧ (gx_ST.find? (fun q => q.1 == z.1 && q.2.1 == z.2.2.1)).isSome = true := by decide +kernel
end
section
/-- one value of an array of tag t -/
def gx_rd (h : gx_H) (a t : Nat) (i : Int32) : Option Value := match h[a]? with
  | some q => if q.1 = t ∧ ¬ i < 0 then q.2[i.toNatClampNeg]? else none
  | none => none
theorem gx_rd_e {h : gx_H} {a t : Nat} {i : Int32} {v : Value} (e : gx_rd h a t i = some v) : ∃ vs, h[a]? = some (t, vs) ∧ ¬ i < 0 ∧ vs[i.toNatClampNeg]? = some v := by
  unfold gx_rd at e
  split at e
  · rename_i q hq
    obtain ⟨t', vs⟩ := q
    split at e
    · rename_i c
      obtain ⟨c1, c2⟩ := c
      cases c1
      exact ⟨vs, hq, c2, e⟩
    · cases e
  · cases e
def gx_ar : List Value → Option (Int32 × Nat × List Value)
  | .int i :: .ref a :: r => some (i, a, r)
  | _ => none
theorem gx_ar_e {st r : List Value} {i : Int32} {a : Nat} (h : gx_ar st = some (i, a, r)) : st = .int i :: .ref a :: r := by
  unfold gx_ar at h; split at h <;> first | (cases h; rfl) | cases h
def gx_sc : List Value → Option (Int32 × UInt32 × List Value)
  | .int i :: .float a :: r => some (i, a, r)
  | _ => none
theorem gx_sc_e {st r : List Value} {i : Int32} {a : UInt32} (h : gx_sc st = some (i, a, r)) : st = .int i :: .float a :: r := by
  unfold gx_sc at h; split at h <;> first | (cases h; rfl) | cases h
def gx_i1 : Value → Option Int32
  | .int x => some x
  | _ => none
theorem gx_i1_e {v : Value} {x : Int32} (h : gx_i1 v = some x) : v = .int x := by cases v <;> simp_all [gx_i1]
def gx_fl : Value → Bool
  | .float _ => true
  | _ => false
def gx_l1 : Value → Option Int64
  | .long x => some x
  | _ => none
theorem gx_l1_e {v : Value} {x : Int64} (h : gx_l1 v = some x) : v = .long x := by cases v <;> simp_all [gx_l1]
/-- a field's class and place, by the pool number in class o -/
def gx_F (o idx : Nat) : Option (Nat × Nat) := (gx_FT.find? (fun q => q.1 == o && q.2.1 == idx)).map (fun q => q.2.2)
def gx_ki (o idx : Nat) : Option Int32 := (gx_KI.find? (fun q => q.1 == o && q.2.1 == idx)).map (fun q => q.2.2)
def gx_kl (o idx : Nat) : Option Int64 := (gx_KL.find? (fun q => q.1 == o && q.2.1 == idx)).map (fun q => q.2.2)
/-- the object at reference a: of class ci -/
def gx_ob (h : gx_H) (a ci : Nat) : Option (List Value) := match h[a]? with
  | some q => if q.1 = ci then some q.2 else none
  | none => none
theorem gx_ob_e {h : gx_H} {a ci : Nat} {fs : List Value} (e : gx_ob h a ci = some fs) : h[a]? = some (ci, fs) := by
  unfold gx_ob at e
  split at e
  · rename_i q hq
    obtain ⟨t', vs⟩ := q
    split at e
    · rename_i c
      cases c; cases e
      exact hq
    · cases e
  · cases e
abbrev gx_R : Type := Option (Nat × gx_L × List Value)
/-- a constant, a number's instruction, a load, a store, a jump -/
def gx_p (o nL : Nat) (ins : Instr) (pc : Nat) (L : gx_L) (st : List Value) : gx_R := match ins with
  | .aconst_null => some (pc + 1, L, .null :: st)
  | .iconst n => some (pc + 1, L, .int (Int32.ofInt n) :: st)
  | .bipush n => some (pc + 2, L, .int (Int8.ofInt n).toInt32 :: st)
  | .sipush n => some (pc + 3, L, .int (Int16.ofInt n).toInt32 :: st)
  | .lconst n => some (pc + 1, L, .long (Int64.ofNat (n : Nat)) :: st)
  | .ldc idx => (gx_ki o idx).map fun x => (pc + 2, L, .int x :: st)
  | .ldc2_w idx => (gx_kl o idx).map fun x => (pc + 3, L, .long x :: st)
  | .iload_n k => ((L.lookup (k : Nat)).bind gx_i1).map fun x => (pc + 1, L, .int x :: st)
  | .iload i => ((L.lookup i).bind gx_i1).map fun x => (pc + 2, L, .int x :: st)
  | .lload_n k => ((L.lookup (k : Nat)).bind gx_l1).map fun x => (pc + 1, L, .long x :: st)
  | .lload i => ((L.lookup i).bind gx_l1).map fun x => (pc + 2, L, .long x :: st)
  | .aload_n k => (L.lookup (k : Nat)).bind fun v => if v.isRef || gx_fl v then some (pc + 1, L, v :: st) else none
  | .aload i => (L.lookup i).bind fun v => if v.isRef || gx_fl v then some (pc + 2, L, v :: st) else none
  | .istore_n k => (gx_a1 st).bind fun q => if (k : Nat) < nL then some (pc + 1, gx_s1 L (k : Nat) (.int q.1), q.2) else none
  | .istore i => (gx_a1 st).bind fun q => if i < nL then some (pc + 2, gx_s1 L i (.int q.1), q.2) else none
  | .lstore_n k => (gx_b1 st).bind fun q => if (k : Nat) + 1 < nL then some (pc + 1, gx_s2 L (k : Nat) (.long q.1), q.2) else none
  | .lstore i => (gx_b1 st).bind fun q => if i + 1 < nL then some (pc + 2, gx_s2 L i (.long q.1), q.2) else none
  | .astore_n k => match st with
    | .ref x :: r => if (k : Nat) < nL then some (pc + 1, gx_s1 L (k : Nat) (.ref x), r) else none
    | .null :: r => if (k : Nat) < nL then some (pc + 1, gx_s1 L (k : Nat) .null, r) else none
    | _ => none
  | .astore i => match st with
    | .ref x :: r => if i < nL then some (pc + 2, gx_s1 L i (.ref x), r) else none
    | .null :: r => if i < nL then some (pc + 2, gx_s1 L i .null, r) else none
    | _ => none
  | .iinc i n => ((L.lookup i).bind gx_i1).bind fun x => if i < nL then some (pc + 3, gx_s1 L i (.int (x + Int32.ofInt n)), st) else none
  | .iadd | .isub | .imul | .iand | .ior | .ixor | .ishl | .ishr | .iushr => (gx_fa2 ins).bind fun f => (gx_a2 st).map fun q => (pc + 1, L, .int (f q.2.1 q.1) :: q.2.2)
  | .ladd | .lsub | .lmul | .land | .lor | .lxor => (gx_fb2 ins).bind fun f => (gx_b2 st).map fun q => (pc + 1, L, .long (f q.2.1 q.1) :: q.2.2)
  | .lshl | .lshr | .lushr => (gx_fab ins).bind fun f => (gx_ab st).map fun q => (pc + 1, L, .long (f q.2.1 q.1) :: q.2.2)
  | .idiv => (gx_a2 st).bind fun q => if q.1 = 0 then none else some (pc + 1, L, .int (q.2.1 / q.1) :: q.2.2)
  | .irem => (gx_a2 st).bind fun q => if q.1 = 0 then none else some (pc + 1, L, .int (q.2.1 - q.2.1 / q.1 * q.1) :: q.2.2)
  | .ineg => (gx_a1 st).map fun q => (pc + 1, L, .int (-q.1) :: q.2)
  | .lneg => (gx_b1 st).map fun q => (pc + 1, L, .long (-q.1) :: q.2)
  | .i2l => (gx_a1 st).map fun q => (pc + 1, L, .long q.1.toInt64 :: q.2)
  | .l2i => (gx_b1 st).map fun q => (pc + 1, L, .int q.1.toInt32 :: q.2)
  | .lcmp => (gx_b2 st).map fun q => (pc + 1, L, .int (lg_cmp q.2.1 q.1) :: q.2.2)
  | .dup => match st with
    | v :: r => if v.category = 1 then some (pc + 1, L, v :: v :: r) else none
    | _ => none
  | .pop => match st with
    | v :: r => if v.category = 1 then some (pc + 1, L, r) else none
    | _ => none
  | .dup_x1 => match st with
    | v :: w :: r => if v.category = 1 ∧ w.category = 1 then some (pc + 1, L, v :: w :: v :: r) else none
    | _ => none
  | .dup2 => match st with
    | v :: w :: r => if v.category = 1 ∧ w.category = 1 then some (pc + 1, L, v :: w :: v :: w :: r) else none
    | _ => none
  | .ifCond c off => (gx_a1 st).bind fun q => (gx_j pc off).map fun t => if gx_c1 c q.1 = true then (t, L, q.2) else (pc + 3, L, q.2)
  | .if_icmp c off => (gx_a2 st).bind fun q => (gx_j pc off).map fun t => if gx_c2 c q.2.1 q.1 = true then (t, L, q.2.2) else (pc + 3, L, q.2.2)
  | .ifnull off => match st with
    | .ref _ :: r => some (pc + 3, L, r)
    | .null :: r => (gx_j pc off).map fun t => (t, L, r)
    | _ => none
  | .ifnonnull off => match st with
    | .ref _ :: r => (gx_j pc off).map fun t => (t, L, r)
    | .null :: r => some (pc + 3, L, r)
    | _ => none
  | .goto off => (gx_j pc off).map fun t => (t, L, st)
  | .tableswitch d lo hi offs => (gx_a1 st).bind fun q => (gx_tab d lo hi offs q.1).bind fun off => (gx_j pc off).map fun t => (t, L, q.2)
  | .lookupswitch d ps => (gx_a1 st).bind fun q => if (ps.toList.zip (ps.toList.drop 1)).all (fun (a, next) => a.1 < next.1) then (gx_j pc (Op.lookupswitch.offset ps.toList d q.1.toInt)).map fun t => (t, L, q.2) else none
  | _ => none
/-- what is read of the heap, or of the law's script xs -/
def gx_q (xs : Option (List Int32)) (o : Nat) (h : gx_H) (ins : Instr) (pc : Nat) (L : gx_L) (st : List Value) : gx_R := match ins with
  | .getfield idx => (gx_r1 st).bind fun q => (gx_F o idx).bind fun f => (gx_ob h q.1 f.1).bind fun fs => (fs[f.2]?).map fun v => (pc + 3, L, v :: q.2)
  | .iaload => match gx_ar st with
    | some q => ((gx_rd h q.2.1 100 q.1).bind gx_i1).map fun x => (pc + 1, L, .int x :: q.2.2)
    | none => (gx_sc st).bind fun q => xs.bind fun l => if q.1 < 0 then none else (l[q.1.toNatClampNeg]?).map fun x => (pc + 1, L, .int x :: q.2.2)
  | .laload => (gx_ar st).bind fun q => ((gx_rd h q.2.1 101 q.1).bind gx_l1).map fun x => (pc + 1, L, .long x :: q.2.2)
  | .baload => (gx_ar st).bind fun q => ((gx_rd h q.2.1 102 q.1).bind gx_i1).map fun x => (pc + 1, L, .int x :: q.2.2)
  | .aaload => (gx_ar st).bind fun q => match gx_rd h q.2.1 103 q.1 with
    | some v => if v.isRef then some (pc + 1, L, v :: q.2.2) else none
    | none => (gx_rd h q.2.1 104 q.1).bind fun v => if v.isRef then some (pc + 1, L, v :: q.2.2) else none
  | .arraylength => match st with
    | .float _ :: r => xs.map fun l => (pc + 1, L, .int l.length.toInt32 :: r)
    | _ => none
  | _ => none
end
section
theorem gx_look2 {L : List (Nat × Instr)} {i : Nat} {v : Instr} (h : L.lookup i = some v) : (i, v) ∈ L := by
  induction L with
  | nil => cases h
  | cons q r ih =>
    obtain ⟨a, w⟩ := q
    rw [List.lookup_cons] at h
    split at h
    · rename_i e
      have e : i = a := by simpa using e
      cases h
      rw [e]
      exact List.mem_cons_self
    · exact List.mem_cons_of_mem _ (ih h)
theorem gx_find {α : Type} {l : List (Nat × Nat × α)} {o idx : Nat} {x : α} (h : (l.find? (fun q => q.1 == o && q.2.1 == idx)).map (fun q => q.2.2) = some x) : (o, idx, x) ∈ l := by
  obtain ⟨⟨a, i, y⟩, h1, h2⟩ := Option.map_eq_some_iff.mp h
  have h3 := List.find?_some h1
  have h4 := List.mem_of_find?_eq_some h1
  simp only [Bool.and_eq_true, beq_iff_eq] at h3
  obtain ⟨rfl, rfl⟩ := h3
  cases h2
  exact h4
theorem gx_wF {w : Jvm.Cond} (h : w ∈ gx_FT.map gx_fw) : w ∈ gx_words := gx_pick gx_cF.1 gx_cF.2 h
theorem gx_wK {w : Jvm.Cond} (h : w ∈ gx_KI.map (fun z => Jvm.Cond.constant (gx_o z.1) z.2.1 z.2.2)) : w ∈ gx_words := by cases h
theorem gx_wKL {w : Jvm.Cond} (h : w ∈ gx_KL.map (fun z => Jvm.Cond.constantLong (gx_o z.1) z.2.1 z.2.2)) : w ∈ gx_words := gx_pick gx_cKL.1 gx_cKL.2 h
theorem gx_wN {w : Jvm.Cond} (h : w ∈ gx_CT.flatMap gx_nw) : w ∈ gx_words := gx_pick gx_cN.1 gx_cN.2 h
theorem gx_wC {ci : Nat} {r : vw_C} (hr : gx_cl[ci]? = some r) : ∀ w ∈ u_ws r.1 r.2.1 r.2.2, w ∈ gx_words := fun w h => gx_pick gx_cC.1 gx_cC.2 (List.mem_flatMap.mpr ⟨r, List.mem_of_getElem? hr, h⟩)
theorem gx_wS {w : Jvm.Cond} (h : w ∈ gx_MT.map gx_sw1) : w ∈ gx_words := gx_pick gx_cS.1 gx_cS.2 h
theorem gx_wA {w : Jvm.Cond} (h : w ∈ ([.arrayClass .boolean, .arrayClass .int, .arrayClass .long] : List Jvm.Cond)) : w ∈ gx_words := gx_pick gx_cA.1 gx_cA.2 h
theorem gx_wO : Jvm.Cond.arrayOver (.object gx_elem) ∈ gx_words := gx_pick gx_cO.1 gx_cO.2 List.mem_cons_self
theorem gx_rowM {r : List gx_E} (hr : r ∈ gx_tb) {z : gx_E} (hz : z ∈ r) {w : Jvm.Cond} (hw : w ∈ gx_mw z) : w ∈ gx_words := by
  unfold gx_tb at hr
  simp only [List.mem_cons, List.not_mem_nil, or_false] at hr
  have h : w ∈ r.flatMap gx_mw := List.mem_flatMap.mpr ⟨z, hz, hw⟩
  rcases hr with rfl | rfl | rfl | rfl | rfl | rfl | rfl | rfl | rfl | rfl | rfl | rfl | rfl | rfl
  · exact gx_pick gx_cM0.1 gx_cM0.2 h
  · exact gx_pick gx_cM1.1 gx_cM1.2 h
  · exact gx_pick gx_cM2.1 gx_cM2.2 h
  · exact gx_pick gx_cM3.1 gx_cM3.2 h
  · exact gx_pick gx_cM4.1 gx_cM4.2 h
  · exact gx_pick gx_cM5.1 gx_cM5.2 h
  · exact gx_pick gx_cM6.1 gx_cM6.2 h
  · exact gx_pick gx_cM7.1 gx_cM7.2 h
  · exact gx_pick gx_cM8.1 gx_cM8.2 h
  · exact gx_pick gx_cM9.1 gx_cM9.2 h
  · exact gx_pick gx_cM10.1 gx_cM10.2 h
  · exact gx_pick gx_cM11.1 gx_cM11.2 h
  · exact gx_pick gx_cM12.1 gx_cM12.2 h
  · exact gx_pick gx_cM13.1 gx_cM13.2 h
theorem gx_rowE {r : List gx_E} (hr : r ∈ gx_tb) {z : gx_E} (hz : z ∈ r) : gx_eok z = true := by
  unfold gx_tb at hr
  simp only [List.mem_cons, List.not_mem_nil, or_false] at hr
  rcases hr with rfl | rfl | rfl | rfl | rfl | rfl | rfl | rfl | rfl | rfl | rfl | rfl | rfl | rfl
  · exact List.all_eq_true.mp gx_ck0 z hz
  · exact List.all_eq_true.mp gx_ck1 z hz
  · exact List.all_eq_true.mp gx_ck2 z hz
  · exact List.all_eq_true.mp gx_ck3 z hz
  · exact List.all_eq_true.mp gx_ck4 z hz
  · exact List.all_eq_true.mp gx_ck5 z hz
  · exact List.all_eq_true.mp gx_ck6 z hz
  · exact List.all_eq_true.mp gx_ck7 z hz
  · exact List.all_eq_true.mp gx_ck8 z hz
  · exact List.all_eq_true.mp gx_ck9 z hz
  · exact List.all_eq_true.mp gx_ck10 z hz
  · exact List.all_eq_true.mp gx_ck11 z hz
  · exact List.all_eq_true.mp gx_ck12 z hz
  · exact List.all_eq_true.mp gx_ck13 z hz
def gx_nj : Nat := 196
theorem gx_lens : gx_tb.length = 14 ∧ gx_tb.all (fun r => r.length == 14) = true := by decide +kernel
theorem gx_inj {j : Nat} (hj : j < gx_nj) : ∃ r, r ∈ gx_tb ∧ gx_m j ∈ r := by
  have hj : j < 196 := hj
  have h1 : j / 14 < gx_tb.length := by rw [gx_lens.1]; omega
  obtain ⟨r, hr⟩ : ∃ r, gx_tb[j / 14]? = some r := ⟨_, List.getElem?_eq_getElem h1⟩
  have hm : r ∈ gx_tb := List.mem_of_getElem? hr
  have h2 : r.length = 14 := by simpa using List.all_eq_true.mp gx_lens.2 r hm
  have h3 : j % 14 < r.length := by rw [h2]; omega
  refine ⟨r, hm, ?_⟩
  unfold gx_m
  rw [hr]
  show r.getD (j % 14) gx_m0 ∈ r
  rw [List.getD_eq_getElem?_getD, List.getElem?_eq_getElem h3]
  exact List.getElem_mem h3
theorem gx_m_out {j : Nat} (hj : ¬ j < gx_nj) : gx_m j = gx_m0 := by
  have hj : ¬ j < 196 := hj
  unfold gx_m
  rw [List.getElem?_eq_none (by rw [gx_lens.1]; omega)]
  rfl
theorem gx_ok {j : Nat} (hj : j < gx_nj) : gx_eok (gx_m j) = true := by
  obtain ⟨r, h1, h2⟩ := gx_inj hj
  exact gx_rowE h1 h2
theorem gx_wM {j : Nat} (hj : j < gx_nj) {w : Jvm.Cond} (hw : w ∈ gx_mw (gx_m j)) : w ∈ gx_words := by
  obtain ⟨r, h1, h2⟩ := gx_inj hj
  exact gx_rowM h1 h2 hw
theorem gx_parts {j : Nat} (hj : j < gx_nj) : ((gx_m j).2.2.2.2.all (gx_chk (gx_b j)) = true) ∧ plainFor (gx_y j) = true ∧ (parseMethodDescriptor (gx_y j).desc).map (fun d => d.parameters.length) = some (gx_np j) ∧ ((gx_y j).cls ≠ "java/lang/invoke/MethodHandle" ∧ (gx_y j).cls ≠ "java/lang/invoke/VarHandle") ∧ (gx_y j).cls = gx_o (gx_mo j) ∧
    (gx_kd j = 1 → (gx_cl[gx_rc j]?).map (fun r => r.1) = some (gx_y j).cls ∧ gx_rc j < 100) ∧ (gx_kd j = 2 → (gx_y j).name = "<init>" ∧ gx_rt j = none ∧ gx_hd j = []) ∧ gx_nl j ≤ 80 := by
  have h := gx_ok hj
  unfold gx_eok at h
  simp only [Bool.and_eq_true, decide_eq_true_eq] at h
  exact h
theorem gx_npok (j : Nat) (hj : j < gx_nj) : (parseMethodDescriptor (gx_y j).desc).map (fun d => d.parameters.length) = some (gx_np j) := (gx_parts hj).2.2.1
theorem gx_plain (j : Nat) (hj : j < gx_nj) : plainFor (gx_y j) = true ∧ ((gx_y j).cls ≠ "java/lang/invoke/MethodHandle" ∧ (gx_y j).cls ≠ "java/lang/invoke/VarHandle") := ⟨(gx_parts hj).2.1, (gx_parts hj).2.2.2.1⟩
/-- an instruction of the table is the code's -/
theorem gx_dec {j pc : Nat} {ins : Instr} (h : gx_I j pc = some ins) : ∃ len, decode (gx_b j) pc = .ok (ins, len) ∧ gx_lok ins len = true := by
  by_cases hj : j < gx_nj
  · have h1 := (gx_parts hj).1
    unfold gx_I at h
    cases hb : (gx_m j).2.2.2.2[pc / 64]? with
    | none => rw [hb] at h; cases h
    | some bl =>
      rw [hb] at h
      have h2 := List.all_eq_true.mp h1 bl (List.mem_of_getElem? hb)
      have h3 : (pc, ins) ∈ bl := gx_look2 h
      unfold gx_chk at h2
      have h4 := List.all_eq_true.mp h2 _ h3
      dsimp only at h4
      split at h4
      · rename_i i len he
        simp only [Bool.and_eq_true, decide_eq_true_eq] at h4
        obtain ⟨rfl, h5⟩ := h4
        exact ⟨len, he, h5⟩
      · cases h4
  · unfold gx_I at h
    rw [gx_m_out hj] at h
    cases h
theorem gx_small {o idx ci k : Nat} (h : gx_F o idx = some (ci, k)) : ci < 100 := by
  have h1 := gx_find h
  have h2 : gx_FT.all (fun z => decide (z.2.2.1 < 100)) = true := by decide +kernel
  simpa using List.all_eq_true.mp h2 _ h1
theorem gx_ftyok : ∀ (ci : Nat) (r : vw_C), gx_cl[ci]? = some r → ∀ k, k < r.2.2 → parseFieldDescriptor (r.2.1 k).2.2.1 = some (gx_fty ci k) := by
  intro ci r hr k hk
  have h : (List.range gx_cl.length).all (fun ci => match gx_cl[ci]? with
    | some r => (List.range r.2.2).all (fun k => decide (parseFieldDescriptor (r.2.1 k).2.2.1 = some (gx_fty ci k)))
    | none => true) = true := by decide +kernel
  have hl : ci < gx_cl.length := by
    rcases Nat.lt_or_ge ci gx_cl.length with q | q
    · exact q
    · rw [List.getElem?_eq_none q] at hr; cases hr
  have h1 := List.all_eq_true.mp h ci (List.mem_range.mpr hl)
  rw [hr] at h1
  have h2 := List.all_eq_true.mp h1 k (List.mem_range.mpr hk)
  simpa using h2
theorem gx_nm : ∀ (ci : Nat) (r : vw_C), gx_cl[ci]? = some r → ∀ a, a < r.2.2 → ∀ b, b < r.2.2 → a ≠ b → (r.2.1 a).2.1 ≠ (r.2.1 b).2.1 := by
  intro ci r hr a ha b hb hne
  have h : gx_cl.all (fun r => (List.range r.2.2).all (fun a => (List.range r.2.2).all (fun b => decide (a ≠ b → (r.2.1 a).2.1 ≠ (r.2.1 b).2.1)))) = true := by decide +kernel
  have h1 := List.all_eq_true.mp h r (List.mem_of_getElem? hr)
  have h2 := List.all_eq_true.mp h1 a (List.mem_range.mpr ha)
  have h3 := List.all_eq_true.mp h2 b (List.mem_range.mpr hb)
  simp only [decide_eq_true_eq] at h3
  exact h3 hne
theorem gx_nofl : ∀ (ci : Nat) (r : vw_C), gx_cl[ci]? = some r → ∀ k, k < r.2.2 → gx_fl (defaultValue (gx_fty ci k)) = false := by
  intro ci r hr k hk
  have h : (List.range gx_cl.length).all (fun ci => match gx_cl[ci]? with
    | some r => (List.range r.2.2).all (fun k => !gx_fl (defaultValue (gx_fty ci k)))
    | none => true) = true := by decide +kernel
  have hl : ci < gx_cl.length := by
    rcases Nat.lt_or_ge ci gx_cl.length with q | q
    · exact q
    · rw [List.getElem?_eq_none q] at hr; cases hr
  have h1 := List.all_eq_true.mp h ci (List.mem_range.mpr hl)
  rw [hr] at h1
  have h2 := List.all_eq_true.mp h1 k (List.mem_range.mpr hk)
  simpa using h2
theorem gx_defv {ba b : Nat} {ty : FieldType} (h : gx_fl (defaultValue ty) = false) : gx_v ba b (defaultValue ty) = defaultValue ty := by
  cases ty <;> first | rfl | cases h
theorem gx_ei_lt : gx_ei < 100 := by decide
theorem gx_ei_nm {r : vw_C} (h : gx_cl[gx_ei]? = some r) : r.1 = gx_elem := by
  cases h
  rfl
theorem gx_ct_r {z : Nat × Nat × Nat} (h : z ∈ gx_CT) : ∃ r, gx_cl[z.2.2]? = some r := by
  have h2 : gx_CT.all (fun z => (gx_cl[z.2.2]?).isSome) = true := by decide +kernel
  exact Option.isSome_iff_exists.mp (List.all_eq_true.mp h2 z h)
theorem gx_mtj {z : Nat × Nat × Nat × Bool} (h : z ∈ gx_MT) : z.2.2.1 < gx_nj := by
  have h2 : gx_MT.all (fun z => decide (z.2.2.1 < gx_nj)) = true := by decide +kernel
  simpa using List.all_eq_true.mp h2 z h
theorem gx_wM0 {j : Nat} (hj : j < gx_nj) (hk : gx_kd j ≠ 9) : (if gx_hd j = [] then Jvm.Cond.code (gx_y j) (gx_b j) (gx_nl j) (gx_rt j) else Jvm.Cond.codeWith (gx_y j) (gx_b j) (gx_nl j) (gx_rt j) (gx_hd j)) ∈ gx_words ∧ Jvm.Cond.initialized (gx_y j).cls ∈ gx_words := by
  have hk : ¬ (gx_m j).2.2.2.1.2.1 = 9 := hk
  constructor
  · refine gx_wM hj ?_
    unfold gx_mw
    rw [if_neg hk]
    exact List.mem_cons_self
  · refine gx_wM hj ?_
    unfold gx_mw
    rw [if_neg hk]
    exact List.mem_cons_of_mem _ List.mem_cons_self
theorem gx_w0 {j : Nat} (hj : j < gx_nj) (hk : gx_kd j = 0) : Jvm.Cond.static (gx_y j) ∈ gx_words := by
  have hk : (gx_m j).2.2.2.1.2.1 = 0 := hk
  refine gx_wM hj ?_
  unfold gx_mw
  rw [if_neg (show ¬ (gx_m j).2.2.2.1.2.1 = 9 by rw [hk]; decide), if_pos hk]
  exact List.mem_cons_of_mem _ (List.mem_cons_of_mem _ List.mem_cons_self)
theorem gx_w1 {j : Nat} (hj : j < gx_nj) (hk : gx_kd j = 1) : Jvm.Cond.instanceMethod (gx_y j) ∈ gx_words ∧ Jvm.Cond.selects (gx_y j).cls (gx_y j) (gx_y j) ∈ gx_words := by
  have hk : (gx_m j).2.2.2.1.2.1 = 1 := hk
  constructor
  · refine gx_wM hj ?_
    unfold gx_mw
    rw [if_neg (show ¬ (gx_m j).2.2.2.1.2.1 = 9 by rw [hk]; decide), if_neg (show ¬ (gx_m j).2.2.2.1.2.1 = 0 by rw [hk]; decide), if_pos hk]
    exact List.mem_cons_of_mem _ (List.mem_cons_of_mem _ List.mem_cons_self)
  · refine gx_wM hj ?_
    unfold gx_mw
    rw [if_neg (show ¬ (gx_m j).2.2.2.1.2.1 = 9 by rw [hk]; decide), if_neg (show ¬ (gx_m j).2.2.2.1.2.1 = 0 by rw [hk]; decide), if_pos hk]
    exact List.mem_cons_of_mem _ (List.mem_cons_of_mem _ (List.mem_cons_of_mem _ List.mem_cons_self))
theorem gx_w2 {j : Nat} (hj : j < gx_nj) (hk : gx_kd j = 2) : Jvm.Cond.instanceMethod (gx_y j) ∈ gx_words ∧ Jvm.Cond.code (gx_y j) (gx_b j) (gx_nl j) none ∈ gx_words ∧ (gx_y j).name = "<init>" ∧ gx_hd j = [] := by
  obtain ⟨n1, n2, n3⟩ := (gx_parts hj).2.2.2.2.2.2.1 hk
  have hk' : (gx_m j).2.2.2.1.2.1 = 2 := hk
  refine ⟨?_, ?_, n1, n3⟩
  · refine gx_wM hj ?_
    unfold gx_mw
    rw [if_neg (show ¬ (gx_m j).2.2.2.1.2.1 = 9 by rw [hk']; decide), if_neg (show ¬ (gx_m j).2.2.2.1.2.1 = 0 by rw [hk']; decide), if_neg (show ¬ (gx_m j).2.2.2.1.2.1 = 1 by rw [hk']; decide)]
    exact List.mem_cons_of_mem _ (List.mem_cons_of_mem _ List.mem_cons_self)
  · have := (gx_wM0 hj (by rw [hk]; decide)).1
    rw [if_pos n3, n2] at this
    exact this
theorem gx_rc_lt {j : Nat} (hj : j < gx_nj) (hk : gx_kd j = 1) : gx_rc j < 100 := ((gx_parts hj).2.2.2.2.2.1 hk).2
theorem gx_rc_nm {j : Nat} (hj : j < gx_nj) (hk : gx_kd j = 1) {r : vw_C} (hr : gx_cl[gx_rc j]? = some r) : r.1 = (gx_y j).cls := by
  have h := ((gx_parts hj).2.2.2.2.2.1 hk).1
  rw [hr] at h
  exact Option.some.inj h
end
section
theorem gx_ki_w {o idx : Nat} {x : Int32} (h : gx_ki o idx = some x) : Jvm.Cond.constant (gx_o o) idx x ∈ gx_words := gx_wK (List.mem_map.mpr ⟨_, gx_find h, rfl⟩)
theorem gx_kl_w {o idx : Nat} {x : Int64} (h : gx_kl o idx = some x) : Jvm.Cond.constantLong (gx_o o) idx x ∈ gx_words := gx_wKL (List.mem_map.mpr ⟨_, gx_find h, rfl⟩)
section GXP
variable {p : Program} {l : Launch} {e : Env} {R : Room} {s : State} {m : MethodId} {args : Array Value} {below : List Frame} {meth : Method} {c : Code} {H : Heap} {locs : List Loc} {cells slots : Nat} {Q : State → Prop}
variable {cc : ByteArray} {ls : Array Slot}
set_option maxHeartbeats 4000000 in
theorem gx_pW (hx : p.tables.exec = Jvm.exec) (hb : c.code = cc) {o nL ba b : Nat} (hown : s.vm.findClass (gx_o o) = some m.cls) (hw : ∀ w ∈ gx_words, w.before args s = true)
    {ins : Instr} {pc pc' : Nat} {L L' : gx_L} {st st' : List Value} (hd : ∃ len, decode cc pc = .ok (ins, len) ∧ gx_lok ins len = true) (hl : lv_has ls nL (gx_l ba b L)) (h : gx_p o nL ins pc L st = some (pc', L', st'))
    (kk : ∀ ls' : Array Slot, lv_has ls' nL (gx_l ba b L') → W p l e R s m args below meth c H locs cells slots Q (F0 m pc' ls' (gx_t ba b st'))) :
    W p l e R s m args below meth c H locs cells slots Q (F0 m pc ls (gx_t ba b st)) := by
  obtain ⟨len, hd, hlen⟩ := hd
  cases ins with
  | aconst_null =>
    have e1 : len = 1 := by simpa [gx_lok, gx_len] using hlen
    subst e1
    cases h
    exact lv_null hx hb hd (kk _ hl)
  | iconst n =>
    have e1 : len = 1 := by simpa [gx_lok, gx_len] using hlen
    subst e1
    cases h
    exact lv_iconst hx hb hd rfl (kk _ hl)
  | bipush n =>
    have e1 : len = 2 := by simpa [gx_lok, gx_len] using hlen
    subst e1
    cases h
    exact lv_bipush hx hb hd rfl (kk _ hl)
  | sipush n =>
    have e1 : len = 3 := by simpa [gx_lok, gx_len] using hlen
    subst e1
    cases h
    exact lv_sipush hx hb hd rfl (kk _ hl)
  | lconst n =>
    have e1 : len = 1 := by simpa [gx_lok, gx_len] using hlen
    subst e1
    cases h
    exact lv_lconst hx hb hd rfl (kk _ hl)
  | ldc idx =>
    have e1 : len = 2 := by simpa [gx_lok, gx_len] using hlen
    subst e1
    simp only [gx_p] at h
    obtain ⟨x, h1, h2⟩ := Option.map_eq_some_iff.mp h
    cases h2
    exact lv_ldc hx hb hown (hw _ (gx_ki_w h1)) hd (kk _ hl)
  | ldc2_w idx =>
    have e1 : len = 3 := by simpa [gx_lok, gx_len] using hlen
    subst e1
    simp only [gx_p] at h
    obtain ⟨x, h1, h2⟩ := Option.map_eq_some_iff.mp h
    cases h2
    exact lv_ldc2 hx hb hown (hw _ (gx_kl_w h1)) hd (kk _ hl)
  | iload_n k =>
    have e1 : len = 1 := by simpa [gx_lok, gx_len] using hlen
    subst e1
    obtain ⟨x, h1, h2⟩ := Option.map_eq_some_iff.mp h
    obtain ⟨v, h3, h4⟩ := Option.bind_eq_some_iff.mp h1
    have h5 := gx_i1_e h4
    subst h5
    cases h2
    exact lv_iload_n hx hb hd rfl (gx_at_l hl h3) (kk _ hl)
  | iload i =>
    have e1 : len = 2 := by simpa [gx_lok, gx_len] using hlen
    subst e1
    obtain ⟨x, h1, h2⟩ := Option.map_eq_some_iff.mp h
    obtain ⟨v, h3, h4⟩ := Option.bind_eq_some_iff.mp h1
    have h5 := gx_i1_e h4
    subst h5
    cases h2
    exact lv_iload hx hb hd (gx_at_l hl h3) (kk _ hl)
  | lload_n k =>
    have e1 : len = 1 := by simpa [gx_lok, gx_len] using hlen
    subst e1
    obtain ⟨x, h1, h2⟩ := Option.map_eq_some_iff.mp h
    obtain ⟨v, h3, h4⟩ := Option.bind_eq_some_iff.mp h1
    have h5 := gx_l1_e h4
    subst h5
    cases h2
    exact lv_lload_n hx hb hd rfl (gx_at_l hl h3) (kk _ hl)
  | lload i =>
    have e1 : len = 2 := by simpa [gx_lok, gx_len] using hlen
    subst e1
    obtain ⟨x, h1, h2⟩ := Option.map_eq_some_iff.mp h
    obtain ⟨v, h3, h4⟩ := Option.bind_eq_some_iff.mp h1
    have h5 := gx_l1_e h4
    subst h5
    cases h2
    exact lv_lload hx hb hd (gx_at_l hl h3) (kk _ hl)
  | aload_n k =>
    have e1 : len = 1 := by simpa [gx_lok, gx_len] using hlen
    subst e1
    obtain ⟨v, h1, h2⟩ := Option.bind_eq_some_iff.mp h
    split at h2
    · cases h2
      have h6 := gx_at_l hl h1
      cases v with
      | ref a => exact lv_aload_n hx hb hd rfl h6 (kk _ hl)
      | null => exact lv_aload_nN hx hb hd rfl h6 (kk _ hl)
      | float a => exact lv_aload_n hx hb hd rfl h6 (kk _ hl)
      | _ => rename_i hc; simp [Value.isRef, gx_fl] at hc
    · cases h2
  | aload i =>
    have e1 : len = 2 := by simpa [gx_lok, gx_len] using hlen
    subst e1
    obtain ⟨v, h1, h2⟩ := Option.bind_eq_some_iff.mp h
    split at h2
    · cases h2
      have h6 := gx_at_l hl h1
      cases v with
      | ref a => exact lv_aload hx hb hd h6 (kk _ hl)
      | null => exact lv_aloadN hx hb hd h6 (kk _ hl)
      | float a => exact lv_aload hx hb hd h6 (kk _ hl)
      | _ => rename_i hc; simp [Value.isRef, gx_fl] at hc
    · cases h2
  | istore_n k =>
    have e1 : len = 1 := by simpa [gx_lok, gx_len] using hlen
    subst e1
    obtain ⟨⟨x, r⟩, h1, h2⟩ := Option.bind_eq_some_iff.mp h
    have h5 := gx_a1_e h1
    subst h5
    split at h2
    · rename_i hn
      cases h2
      exact lv_istore_n hx hb hd rfl hl hn (gx_l_s1 ba b L _ (.int x)) (fun ls' hl' => kk ls' hl')
    · cases h2
  | istore i =>
    have e1 : len = 2 := by simpa [gx_lok, gx_len] using hlen
    subst e1
    obtain ⟨⟨x, r⟩, h1, h2⟩ := Option.bind_eq_some_iff.mp h
    have h5 := gx_a1_e h1
    subst h5
    split at h2
    · rename_i hn
      cases h2
      exact lv_istore hx hb hd hl hn (gx_l_s1 ba b L _ (.int x)) (fun ls' hl' => kk ls' hl')
    · cases h2
  | lstore_n k =>
    have e1 : len = 1 := by simpa [gx_lok, gx_len] using hlen
    subst e1
    obtain ⟨⟨x, r⟩, h1, h2⟩ := Option.bind_eq_some_iff.mp h
    have h5 := gx_b1_e h1
    subst h5
    split at h2
    · rename_i hn
      cases h2
      exact lv_lstore_n hx hb hd rfl hl hn (gx_l_s2 ba b L _ (.long x)) (fun ls' hl' => kk ls' hl')
    · cases h2
  | lstore i =>
    have e1 : len = 2 := by simpa [gx_lok, gx_len] using hlen
    subst e1
    obtain ⟨⟨x, r⟩, h1, h2⟩ := Option.bind_eq_some_iff.mp h
    have h5 := gx_b1_e h1
    subst h5
    split at h2
    · rename_i hn
      cases h2
      exact lv_lstore hx hb hd hl hn (gx_l_s2 ba b L _ (.long x)) (fun ls' hl' => kk ls' hl')
    · cases h2
  | astore_n k =>
    have e1 : len = 1 := by simpa [gx_lok, gx_len] using hlen
    subst e1
    simp only [gx_p] at h
    split at h
    · split at h
      · rename_i hn
        cases h
        exact lv_astore_n hx hb hd rfl hl hn (gx_l_s1 ba b L _ (.ref _)) (fun ls' hl' => kk ls' hl')
      · cases h
    · split at h
      · rename_i hn
        cases h
        exact lv_astore_nN hx hb hd rfl hl hn (gx_l_s1 ba b L _ .null) (fun ls' hl' => kk ls' hl')
      · cases h
    · cases h
  | astore i =>
    have e1 : len = 2 := by simpa [gx_lok, gx_len] using hlen
    subst e1
    simp only [gx_p] at h
    split at h
    · split at h
      · rename_i hn
        cases h
        exact lv_astore hx hb hd hl hn (gx_l_s1 ba b L _ (.ref _)) (fun ls' hl' => kk ls' hl')
      · cases h
    · split at h
      · rename_i hn
        cases h
        exact lv_astoreN hx hb hd hl hn (gx_l_s1 ba b L _ .null) (fun ls' hl' => kk ls' hl')
      · cases h
    · cases h
  | iinc i n =>
    have e1 : len = 3 := by simpa [gx_lok, gx_len] using hlen
    subst e1
    obtain ⟨x, h1, h2⟩ := Option.bind_eq_some_iff.mp h
    obtain ⟨v, h3, h4⟩ := Option.bind_eq_some_iff.mp h1
    have h5 := gx_i1_e h4
    subst h5
    split at h2
    · rename_i hn
      cases h2
      obtain ⟨k, hk⟩ := gx_ix_l (ba := ba) (b := b) h3
      exact lv_iinc hx hb hd hl hk rfl hn (gx_l_s1 ba b L _ (.int _)) (fun ls' hl' => kk ls' hl')
    · cases h2
  | iadd =>
    have e1 : len = 1 := by simpa [gx_lok, gx_len] using hlen
    subst e1
    simp only [gx_p, gx_fa2, gx_fb2, gx_fab, Option.bind_some] at h
    obtain ⟨⟨y, x, r⟩, h1, h2⟩ := Option.map_eq_some_iff.mp h
    have h5 := gx_a2_e h1
    subst h5
    cases h2
    exact lv_iadd hx hb hd (kk _ hl)
  | isub =>
    have e1 : len = 1 := by simpa [gx_lok, gx_len] using hlen
    subst e1
    simp only [gx_p, gx_fa2, gx_fb2, gx_fab, Option.bind_some] at h
    obtain ⟨⟨y, x, r⟩, h1, h2⟩ := Option.map_eq_some_iff.mp h
    have h5 := gx_a2_e h1
    subst h5
    cases h2
    exact lv_isub hx hb hd (kk _ hl)
  | imul =>
    have e1 : len = 1 := by simpa [gx_lok, gx_len] using hlen
    subst e1
    simp only [gx_p, gx_fa2, gx_fb2, gx_fab, Option.bind_some] at h
    obtain ⟨⟨y, x, r⟩, h1, h2⟩ := Option.map_eq_some_iff.mp h
    have h5 := gx_a2_e h1
    subst h5
    cases h2
    exact lv_imul hx hb hd (kk _ hl)
  | iand =>
    have e1 : len = 1 := by simpa [gx_lok, gx_len] using hlen
    subst e1
    simp only [gx_p, gx_fa2, gx_fb2, gx_fab, Option.bind_some] at h
    obtain ⟨⟨y, x, r⟩, h1, h2⟩ := Option.map_eq_some_iff.mp h
    have h5 := gx_a2_e h1
    subst h5
    cases h2
    exact lv_iand hx hb hd (kk _ hl)
  | ior =>
    have e1 : len = 1 := by simpa [gx_lok, gx_len] using hlen
    subst e1
    simp only [gx_p, gx_fa2, gx_fb2, gx_fab, Option.bind_some] at h
    obtain ⟨⟨y, x, r⟩, h1, h2⟩ := Option.map_eq_some_iff.mp h
    have h5 := gx_a2_e h1
    subst h5
    cases h2
    exact lv_ior hx hb hd (kk _ hl)
  | ixor =>
    have e1 : len = 1 := by simpa [gx_lok, gx_len] using hlen
    subst e1
    simp only [gx_p, gx_fa2, gx_fb2, gx_fab, Option.bind_some] at h
    obtain ⟨⟨y, x, r⟩, h1, h2⟩ := Option.map_eq_some_iff.mp h
    have h5 := gx_a2_e h1
    subst h5
    cases h2
    exact lv_ixor hx hb hd (kk _ hl)
  | ishl =>
    have e1 : len = 1 := by simpa [gx_lok, gx_len] using hlen
    subst e1
    simp only [gx_p, gx_fa2, gx_fb2, gx_fab, Option.bind_some] at h
    obtain ⟨⟨y, x, r⟩, h1, h2⟩ := Option.map_eq_some_iff.mp h
    have h5 := gx_a2_e h1
    subst h5
    cases h2
    exact lv_ishl hx hb hd (kk _ hl)
  | ishr =>
    have e1 : len = 1 := by simpa [gx_lok, gx_len] using hlen
    subst e1
    simp only [gx_p, gx_fa2, gx_fb2, gx_fab, Option.bind_some] at h
    obtain ⟨⟨y, x, r⟩, h1, h2⟩ := Option.map_eq_some_iff.mp h
    have h5 := gx_a2_e h1
    subst h5
    cases h2
    exact lv_ishr hx hb hd (kk _ hl)
  | iushr =>
    have e1 : len = 1 := by simpa [gx_lok, gx_len] using hlen
    subst e1
    simp only [gx_p, gx_fa2, gx_fb2, gx_fab, Option.bind_some] at h
    obtain ⟨⟨y, x, r⟩, h1, h2⟩ := Option.map_eq_some_iff.mp h
    have h5 := gx_a2_e h1
    subst h5
    cases h2
    exact lv_iushr hx hb hd rfl (kk _ hl)
  | ladd =>
    have e1 : len = 1 := by simpa [gx_lok, gx_len] using hlen
    subst e1
    simp only [gx_p, gx_fa2, gx_fb2, gx_fab, Option.bind_some] at h
    obtain ⟨⟨y, x, r⟩, h1, h2⟩ := Option.map_eq_some_iff.mp h
    have h5 := gx_b2_e h1
    subst h5
    cases h2
    exact lv_ladd hx hb hd (kk _ hl)
  | lsub =>
    have e1 : len = 1 := by simpa [gx_lok, gx_len] using hlen
    subst e1
    simp only [gx_p, gx_fa2, gx_fb2, gx_fab, Option.bind_some] at h
    obtain ⟨⟨y, x, r⟩, h1, h2⟩ := Option.map_eq_some_iff.mp h
    have h5 := gx_b2_e h1
    subst h5
    cases h2
    exact lv_lsub hx hb hd (kk _ hl)
  | lmul =>
    have e1 : len = 1 := by simpa [gx_lok, gx_len] using hlen
    subst e1
    simp only [gx_p, gx_fa2, gx_fb2, gx_fab, Option.bind_some] at h
    obtain ⟨⟨y, x, r⟩, h1, h2⟩ := Option.map_eq_some_iff.mp h
    have h5 := gx_b2_e h1
    subst h5
    cases h2
    exact lv_lmul hx hb hd (kk _ hl)
  | land =>
    have e1 : len = 1 := by simpa [gx_lok, gx_len] using hlen
    subst e1
    simp only [gx_p, gx_fa2, gx_fb2, gx_fab, Option.bind_some] at h
    obtain ⟨⟨y, x, r⟩, h1, h2⟩ := Option.map_eq_some_iff.mp h
    have h5 := gx_b2_e h1
    subst h5
    cases h2
    exact lv_land hx hb hd (kk _ hl)
  | lor =>
    have e1 : len = 1 := by simpa [gx_lok, gx_len] using hlen
    subst e1
    simp only [gx_p, gx_fa2, gx_fb2, gx_fab, Option.bind_some] at h
    obtain ⟨⟨y, x, r⟩, h1, h2⟩ := Option.map_eq_some_iff.mp h
    have h5 := gx_b2_e h1
    subst h5
    cases h2
    exact lv_lor hx hb hd (kk _ hl)
  | lxor =>
    have e1 : len = 1 := by simpa [gx_lok, gx_len] using hlen
    subst e1
    simp only [gx_p, gx_fa2, gx_fb2, gx_fab, Option.bind_some] at h
    obtain ⟨⟨y, x, r⟩, h1, h2⟩ := Option.map_eq_some_iff.mp h
    have h5 := gx_b2_e h1
    subst h5
    cases h2
    exact lv_lxor hx hb hd (kk _ hl)
  | lshl =>
    have e1 : len = 1 := by simpa [gx_lok, gx_len] using hlen
    subst e1
    simp only [gx_p, gx_fa2, gx_fb2, gx_fab, Option.bind_some] at h
    obtain ⟨⟨y, x, r⟩, h1, h2⟩ := Option.map_eq_some_iff.mp h
    have h5 := gx_ab_e h1
    subst h5
    cases h2
    exact lv_lshl hx hb hd rfl (kk _ hl)
  | lshr =>
    have e1 : len = 1 := by simpa [gx_lok, gx_len] using hlen
    subst e1
    simp only [gx_p, gx_fa2, gx_fb2, gx_fab, Option.bind_some] at h
    obtain ⟨⟨y, x, r⟩, h1, h2⟩ := Option.map_eq_some_iff.mp h
    have h5 := gx_ab_e h1
    subst h5
    cases h2
    exact lv_lshr hx hb hd rfl (kk _ hl)
  | lushr =>
    have e1 : len = 1 := by simpa [gx_lok, gx_len] using hlen
    subst e1
    simp only [gx_p, gx_fa2, gx_fb2, gx_fab, Option.bind_some] at h
    obtain ⟨⟨y, x, r⟩, h1, h2⟩ := Option.map_eq_some_iff.mp h
    have h5 := gx_ab_e h1
    subst h5
    cases h2
    exact lv_lushr hx hb hd rfl (kk _ hl)
  | idiv =>
    have e1 : len = 1 := by simpa [gx_lok, gx_len] using hlen
    subst e1
    obtain ⟨⟨y, x, r⟩, h1, h2⟩ := Option.bind_eq_some_iff.mp h
    have h5 := gx_a2_e h1
    subst h5
    split at h2
    · cases h2
    · rename_i hn
      cases h2
      exact lv_idiv hx hb hd hn (kk _ hl)
  | irem =>
    have e1 : len = 1 := by simpa [gx_lok, gx_len] using hlen
    subst e1
    obtain ⟨⟨y, x, r⟩, h1, h2⟩ := Option.bind_eq_some_iff.mp h
    have h5 := gx_a2_e h1
    subst h5
    split at h2
    · cases h2
    · rename_i hn
      cases h2
      exact lv_irem hx hb hd hn (kk _ hl)
  | ineg =>
    have e1 : len = 1 := by simpa [gx_lok, gx_len] using hlen
    subst e1
    obtain ⟨⟨x, r⟩, h1, h2⟩ := Option.map_eq_some_iff.mp h
    have h5 := gx_a1_e h1
    subst h5
    cases h2
    exact lv_ineg hx hb hd (kk _ hl)
  | lneg =>
    have e1 : len = 1 := by simpa [gx_lok, gx_len] using hlen
    subst e1
    obtain ⟨⟨x, r⟩, h1, h2⟩ := Option.map_eq_some_iff.mp h
    have h5 := gx_b1_e h1
    subst h5
    cases h2
    exact lv_lneg hx hb hd (kk _ hl)
  | i2l =>
    have e1 : len = 1 := by simpa [gx_lok, gx_len] using hlen
    subst e1
    obtain ⟨⟨x, r⟩, h1, h2⟩ := Option.map_eq_some_iff.mp h
    have h5 := gx_a1_e h1
    subst h5
    cases h2
    exact lv_i2l hx hb hd rfl (kk _ hl)
  | l2i =>
    have e1 : len = 1 := by simpa [gx_lok, gx_len] using hlen
    subst e1
    obtain ⟨⟨x, r⟩, h1, h2⟩ := Option.map_eq_some_iff.mp h
    have h5 := gx_b1_e h1
    subst h5
    cases h2
    exact lv_l2i hx hb hd rfl (kk _ hl)
  | lcmp =>
    have e1 : len = 1 := by simpa [gx_lok, gx_len] using hlen
    subst e1
    obtain ⟨⟨y, x, r⟩, h1, h2⟩ := Option.map_eq_some_iff.mp h
    have h5 := gx_b2_e h1
    subst h5
    cases h2
    exact W.lcmp hx hb hd (kk _ hl)
  | dup =>
    have e1 : len = 1 := by simpa [gx_lok, gx_len] using hlen
    subst e1
    simp only [gx_p] at h
    split at h
    · split at h
      · rename_i hn
        cases h
        exact lv_dup hx hb hd ((gx_v_cat ba b _).trans hn) (kk _ hl)
      · cases h
    · cases h
  | pop =>
    have e1 : len = 1 := by simpa [gx_lok, gx_len] using hlen
    subst e1
    simp only [gx_p] at h
    split at h
    · split at h
      · rename_i hn
        cases h
        exact lv_pop hx hb hd ((gx_v_cat ba b _).trans hn) (kk _ hl)
      · cases h
    · cases h
  | dup_x1 =>
    have e1 : len = 1 := by simpa [gx_lok, gx_len] using hlen
    subst e1
    simp only [gx_p] at h
    split at h
    · split at h
      · rename_i hn
        cases h
        exact lv_dup_x1 hx hb hd ((gx_v_cat ba b _).trans hn.1) ((gx_v_cat ba b _).trans hn.2) (kk _ hl)
      · cases h
    · cases h
  | dup2 =>
    have e1 : len = 1 := by simpa [gx_lok, gx_len] using hlen
    subst e1
    simp only [gx_p] at h
    split at h
    · split at h
      · rename_i hn
        cases h
        exact lv_dup2_11 hx hb hd ((gx_v_cat ba b _).trans hn.1) ((gx_v_cat ba b _).trans hn.2) (kk _ hl)
      · cases h
    · cases h
  | ifCond cn off =>
    have e1 : len = 3 := by simpa [gx_lok, gx_len] using hlen
    subst e1
    obtain ⟨⟨x, r⟩, h1, h2⟩ := Option.bind_eq_some_iff.mp h
    have h5 := gx_a1_e h1
    subst h5
    obtain ⟨t, h3, h4⟩ := Option.map_eq_some_iff.mp h2
    have ht := gx_j_e h3
    by_cases hc : gx_c1 cn x = true
    · rw [if_pos hc] at h4
      cases h4
      cases cn with
      | eq => exact lv_if_eq hx hb hd ht (fun _ => kk _ hl) (fun hn => absurd (of_decide_eq_true hc) hn)
      | ne => exact lv_if_ne hx hb hd ht (fun _ => kk _ hl) (fun hn => absurd hn (of_decide_eq_true hc))
      | lt => exact lv_if_lt hx hb hd ht (fun _ => kk _ hl) (fun hn => absurd (of_decide_eq_true hc) hn)
      | ge => exact lv_if_ge hx hb hd ht (fun _ => kk _ hl) (fun hn => absurd (of_decide_eq_true hc) hn)
      | gt => exact lv_if_gt hx hb hd ht (fun _ => kk _ hl) (fun hn => absurd (of_decide_eq_true hc) hn)
      | le => exact lv_if_le hx hb hd ht (fun _ => kk _ hl) (fun hn => absurd (of_decide_eq_true hc) hn)
    · rw [if_neg hc] at h4
      cases h4
      cases cn with
      | eq => exact lv_if_eq hx hb hd ht (fun hn => absurd (decide_eq_true hn) hc) (fun _ => kk _ hl)
      | ne => exact lv_if_ne hx hb hd ht (fun hn => absurd (decide_eq_true hn) hc) (fun _ => kk _ hl)
      | lt => exact lv_if_lt hx hb hd ht (fun hn => absurd (decide_eq_true hn) hc) (fun _ => kk _ hl)
      | ge => exact lv_if_ge hx hb hd ht (fun hn => absurd (decide_eq_true hn) hc) (fun _ => kk _ hl)
      | gt => exact lv_if_gt hx hb hd ht (fun hn => absurd (decide_eq_true hn) hc) (fun _ => kk _ hl)
      | le => exact lv_if_le hx hb hd ht (fun hn => absurd (decide_eq_true hn) hc) (fun _ => kk _ hl)
  | if_icmp cn off =>
    have e1 : len = 3 := by simpa [gx_lok, gx_len] using hlen
    subst e1
    obtain ⟨⟨y, x, r⟩, h1, h2⟩ := Option.bind_eq_some_iff.mp h
    have h5 := gx_a2_e h1
    subst h5
    obtain ⟨t, h3, h4⟩ := Option.map_eq_some_iff.mp h2
    have ht := gx_j_e h3
    by_cases hc : gx_c2 cn x y = true
    · rw [if_pos hc] at h4
      cases h4
      cases cn with
      | eq => exact lv_icmp_eq hx hb hd ht (fun _ => kk _ hl) (fun hn => absurd (of_decide_eq_true hc) hn)
      | ne => exact lv_icmp_ne hx hb hd ht (fun _ => kk _ hl) (fun hn => absurd hn (of_decide_eq_true hc))
      | lt => exact lv_icmp_lt hx hb hd ht (fun _ => kk _ hl) (fun hn => absurd (of_decide_eq_true hc) hn)
      | ge => exact lv_icmp_ge hx hb hd ht (fun _ => kk _ hl) (fun hn => absurd (of_decide_eq_true hc) hn)
      | gt => exact lv_icmp_gt hx hb hd ht (fun _ => kk _ hl) (fun hn => absurd (of_decide_eq_true hc) hn)
      | le => exact lv_icmp_le hx hb hd ht (fun _ => kk _ hl) (fun hn => absurd (of_decide_eq_true hc) hn)
    · rw [if_neg hc] at h4
      cases h4
      cases cn with
      | eq => exact lv_icmp_eq hx hb hd ht (fun hn => absurd (decide_eq_true hn) hc) (fun _ => kk _ hl)
      | ne => exact lv_icmp_ne hx hb hd ht (fun hn => absurd (decide_eq_true hn) hc) (fun _ => kk _ hl)
      | lt => exact lv_icmp_lt hx hb hd ht (fun hn => absurd (decide_eq_true hn) hc) (fun _ => kk _ hl)
      | ge => exact lv_icmp_ge hx hb hd ht (fun hn => absurd (decide_eq_true hn) hc) (fun _ => kk _ hl)
      | gt => exact lv_icmp_gt hx hb hd ht (fun hn => absurd (decide_eq_true hn) hc) (fun _ => kk _ hl)
      | le => exact lv_icmp_le hx hb hd ht (fun hn => absurd (decide_eq_true hn) hc) (fun _ => kk _ hl)
  | ifnull off =>
    have e1 : len = 3 := by simpa [gx_lok, gx_len] using hlen
    subst e1
    simp only [gx_p] at h
    split at h
    · cases h
      exact lv_ifnull hx hb hd (kk _ hl)
    · obtain ⟨t, h3, h4⟩ := Option.map_eq_some_iff.mp h
      cases h4
      exact lv_ifnullN hx hb hd (gx_j_e h3) (kk _ hl)
    · cases h
  | ifnonnull off =>
    have e1 : len = 3 := by simpa [gx_lok, gx_len] using hlen
    subst e1
    simp only [gx_p] at h
    split at h
    · obtain ⟨t, h3, h4⟩ := Option.map_eq_some_iff.mp h
      cases h4
      exact lv_ifnonnull hx hb hd (gx_j_e h3) (kk _ hl)
    · cases h
      exact lv_ifnonnullN hx hb hd (kk _ hl)
    · cases h
  | goto off =>
    have e1 : len = 3 := by simpa [gx_lok, gx_len] using hlen
    subst e1
    obtain ⟨t, h3, h4⟩ := Option.map_eq_some_iff.mp h
    cases h4
    exact lv_goto hx hb hd (gx_j_e h3) (kk _ hl)
  | tableswitch d lo hi offs =>
    obtain ⟨⟨x, r⟩, h1, h2⟩ := Option.bind_eq_some_iff.mp h
    have h5 := gx_a1_e h1
    subst h5
    obtain ⟨off, h6, h7⟩ := Option.bind_eq_some_iff.mp h2
    obtain ⟨t, h3, h4⟩ := Option.map_eq_some_iff.mp h7
    cases h4
    have ht := gx_j_e h3
    unfold gx_tab at h6
    split at h6
    · rename_i c1
      cases h6
      exact lv_tableOut hx hb hd (Or.inl c1) ht (kk _ hl)
    · rename_i c1
      split at h6
      · rename_i c2
        cases h6
        exact lv_tableOut hx hb hd (Or.inr c2) ht (kk _ hl)
      · rename_i c2
        exact lv_tableIn hx hb hd c1 c2 h6 ht (kk _ hl)
  | lookupswitch d ps =>
    obtain ⟨⟨x, r⟩, h1, h2⟩ := Option.bind_eq_some_iff.mp h
    have h5 := gx_a1_e h1
    subst h5
    split at h2
    · rename_i hc
      obtain ⟨t, h3, h4⟩ := Option.map_eq_some_iff.mp h2
      cases h4
      exact lv_lookup hx hb hd hc rfl (gx_j_e h3) (kk _ hl)
    · cases h2
  | _ => cases h
end GXP
end
section
/-! what a heap of the small machine says of the machine's own -/
def gx_ty : Nat → FieldType
  | 0 => .int
  | 1 => .long
  | 2 => .boolean
  | 3 => .object gx_elem
  | _ => .array .int
/-- the array classes' numbers -/
def gx_AK (U : State) (aC : Nat → ClassId) : Prop := ∀ t, t < 5 → ∃ (k : Class) (comp : ClassId), U.vm.classes[aC t]? = some k ∧ k.kind = .array comp (gx_ty t) ∧ U.vm.findClass ("[" ++ (gx_ty t).toString) = some (aC t) ∧ (t = 3 → U.vm.findClass gx_elem = some comp)
/-- the classes' numbers and their fields' slots -/
def gx_KN (U : State) (D : va_G) : Prop := ∀ (ci : Nat) (q : vw_C), gx_cl[ci]? = some q → u_Kn U q.1 q.2.1 q.2.2 (D.1 ci) (D.2 ci)
def gx_at (D : va_G) (aC : Nat → ClassId) (ba b a : Nat) (c : gx_C) (H : Heap) : Prop :=
  if c.1 < 100 then ∃ r : vw_C, gx_cl[c.1]? = some r ∧ r.2.2 = c.2.length ∧ t_OB a (D.1 c.1) r.2.2 (D.2 c.1) H (fun k => gx_v ba b (vp_V c.2 k))
  else ∃ cell : Cell, H[a]? = some cell ∧ cell.cls = aC (c.1 - 100) ∧ cell.vm = .none ∧ cell.slots = (gx_t ba b c.2).toArray
def gx_rel (D : va_G) (aC : Nat → ClassId) (ba b : Nat) (h : gx_H) (H : Heap) : Prop := H.size = ba + h.length ∧ ∀ (k : Nat) (c : gx_C), h[k]? = some c → gx_at D aC ba b (ba + k) c H
/-- the law's script -/
def gx_X (b : Nat) (xs : List Int32) (U : State) (H : Heap) : Prop := ∃ scr : Cell, H[b]? = some scr ∧ U.isArrayOf scr .int ∧ scr.vm ≠ .unknown ∧ scr.slots.size = xs.length ∧ ∀ (j : Nat) (x : Int32), xs[j]? = some x → scr.slots[j]? = some (.int x)
theorem gx_at.kept {D : va_G} {aC : Nat → ClassId} {ba b a : Nat} {c : gx_C} {H H1 : Heap} (h : gx_at D aC ba b a c H) (e : H1[a]? = H[a]?) : gx_at D aC ba b a c H1 := by
  unfold gx_at at h ⊢
  split at h
  · rename_i hc
    rw [if_pos hc]
    obtain ⟨r, h1, h2, h3⟩ := h
    exact ⟨r, h1, h2, h3.kept e⟩
  · rename_i hc
    rw [if_neg hc]
    obtain ⟨cell, h1, h2⟩ := h
    exact ⟨cell, e.trans h1, h2⟩
theorem gx_at.obj {D : va_G} {aC : Nat → ClassId} {ba b a ci : Nat} {fs : List Value} {H : Heap} (h : gx_at D aC ba b a (ci, fs) H) (hc : ci < 100) : ∃ r : vw_C, gx_cl[ci]? = some r ∧ r.2.2 = fs.length ∧ t_OB a (D.1 ci) r.2.2 (D.2 ci) H (fun k => gx_v ba b (vp_V fs k)) := by
  unfold gx_at at h
  rw [if_pos hc] at h
  exact h
theorem gx_at.arr {D : va_G} {aC : Nat → ClassId} {ba b a t : Nat} {vs : List Value} {H : Heap} (h : gx_at D aC ba b a (100 + t, vs) H) : ∃ cell : Cell, H[a]? = some cell ∧ cell.cls = aC t ∧ cell.vm = .none ∧ cell.slots = (gx_t ba b vs).toArray := by
  unfold gx_at at h
  rw [if_neg (show ¬ (100 + t) < 100 by omega)] at h
  obtain ⟨cell, h1, h2, h3⟩ := h
  exact ⟨cell, h1, by rw [h2]; congr 1; show 100 + t - 100 = t; omega, h3⟩
/-- a cell of the small machine is no cell of statics -/
theorem gx_at.vm {D : va_G} {aC : Nat → ClassId} {ba b a : Nat} {c : gx_C} {H : Heap} (h : gx_at D aC ba b a c H) : ∃ cell : Cell, H[a]? = some cell ∧ cell.vm = .none := by
  unfold gx_at at h
  split at h
  · obtain ⟨r, -, -, cell, h1, -, h3, -⟩ := h
    exact ⟨cell, h1, h3⟩
  · obtain ⟨cell, h1, -, h3, -⟩ := h
    exact ⟨cell, h1, h3⟩
theorem gx_size {ba b : Nat} {vs : List Value} {cell : Cell} (h : cell.slots = (gx_t ba b vs).toArray) : cell.slots.size = vs.length := by
  rw [h]; simp [gx_t]
theorem gx_slot {ba b : Nat} {vs : List Value} {cell : Cell} (h : cell.slots = (gx_t ba b vs).toArray) {i : Nat} {v : Value} (hv : vs[i]? = some v) : cell.slots[i]? = some (gx_v ba b v) := by
  rw [h]; simp [gx_t, hv]
theorem gx_arrOf {s : State} {aC : Nat → ClassId} (hA : gx_AK s aC) {t : Nat} (ht : t < 5) {cell : Cell} (h1 : cell.cls = aC t) (h2 : cell.vm = .none) : s.isArrayOf cell (gx_ty t) := by
  obtain ⟨k, comp, q1, q2, -⟩ := hA t ht
  exact ⟨fun z hz => (by rw [h2] at hz; cases hz), k, (by rw [h1]; exact q1), comp, q2⟩
theorem gx_known {cell : Cell} (h : cell.vm = .none) : cell.vm ≠ .unknown := by rw [h]; intro q; cases q
/-- one cell changes, no other does -/
theorem gx_rel.set {D : va_G} {aC : Nat → ClassId} {ba b : Nat} {h : gx_H} {H H1 : Heap} {k : Nat} {c : gx_C} (hr : gx_rel D aC ba b h H) (hs : H1.size = H.size) (ho : ∀ q, q ≠ ba + k → H1[q]? = H[q]?) (hc : gx_at D aC ba b (ba + k) c H1) : gx_rel D aC ba b (h.set k c) H1 := by
  refine ⟨by rw [hs, hr.1, List.length_set], fun j d hj => ?_⟩
  by_cases e : k = j
  · subst e
    rw [List.getElem?_set] at hj
    simp only [if_true] at hj
    split at hj
    · cases hj; exact hc
    · cases hj
  · rw [List.getElem?_set_ne e] at hj
    exact (hr.2 j d hj).kept (ho _ (by omega))
/-- a cell is made -/
theorem gx_rel.push {D : va_G} {aC : Nat → ClassId} {ba b : Nat} {h : gx_H} {H H1 : Heap} {c : gx_C} (hr : gx_rel D aC ba b h H) (hs : H1.size = H.size + 1) (ho : ∀ q, q < H.size → H1[q]? = H[q]?) (hc : gx_at D aC ba b H.size c H1) : gx_rel D aC ba b (h ++ [c]) H1 := by
  refine ⟨by rw [hs, hr.1]; simp; omega, fun j d hj => ?_⟩
  by_cases e : j < h.length
  · rw [List.getElem?_append_left e] at hj
    exact (hr.2 j d hj).kept (ho _ (by rw [hr.1]; omega))
  · rw [List.getElem?_append_right (by omega)] at hj
    have e2 : j - h.length = 0 := by
      rcases Nat.eq_zero_or_pos (j - h.length) with q | q
      · exact q
      · rw [List.getElem?_cons] at hj
        rw [if_neg (by omega)] at hj
        cases hj
    rw [e2] at hj
    cases hj
    have e3 : ba + j = H.size := by rw [hr.1]; omega
    rw [e3]
    exact hc
theorem gx_F_w {o idx ci k : Nat} (h : gx_F o idx = some (ci, k)) {r : vw_C} (hr : gx_cl[ci]? = some r) : Jvm.Cond.fieldLink (gx_o o) idx (r.2.1 k).1 (r.2.1 k).2.1 (r.2.1 k).2.2.1 ∈ gx_words := by
  refine gx_wF (List.mem_map.mpr ⟨_, gx_find h, ?_⟩)
  simp [gx_fw, hr]
section GXQ
variable {p : Program} {l : Launch} {e : Env} {R : Room} {s : State} {m : MethodId} {args : Array Value} {below : List Frame} {meth : Method} {c : Code} {H : Heap} {locs : List Loc} {cells slots : Nat} {Q : State → Prop}
variable {cc : ByteArray} {ls : Array Slot} {D : va_G} {aC : Nat → ClassId} {ba b : Nat} {h0 : gx_H}
theorem gx_inb {j : Int32} {n k : Nat} (h1 : ¬ j < 0) (h2 : j.toNatClampNeg < n) (h3 : k = n) : ¬ (j < 0 ∨ k ≤ j.toNatClampNeg) := by
  rintro (q | q)
  · exact h1 q
  · omega
theorem gx_ilt {vs : List Value} {i : Nat} {v : Value} (h : vs[i]? = some v) : i < vs.length := by
  rcases Nat.lt_or_ge i vs.length with q | q
  · exact q
  · rw [List.getElem?_eq_none q] at h; cases h
set_option maxHeartbeats 4000000 in
theorem gx_qW (hx : p.tables.exec = Jvm.exec) (hb : c.code = cc) {o nL : Nat} {xs : Option (List Int32)} (hown : s.vm.findClass (gx_o o) = some m.cls) (hw : ∀ w ∈ gx_words, w.before args s = true) (hK : gx_KN s D) (hA : gx_AK s aC) (hr : gx_rel D aC ba b h0 H) (hX : ∀ l, xs = some l → gx_X b l s H)
    {ins : Instr} {pc pc' : Nat} {L L' : gx_L} {st st' : List Value} (hd : ∃ len, decode cc pc = .ok (ins, len) ∧ gx_lok ins len = true) (hl : lv_has ls nL (gx_l ba b L)) (h : gx_q xs o h0 ins pc L st = some (pc', L', st'))
    (kk : ∀ ls' : Array Slot, lv_has ls' nL (gx_l ba b L') → W p l e R s m args below meth c H locs cells slots Q (F0 m pc' ls' (gx_t ba b st'))) :
    W p l e R s m args below meth c H locs cells slots Q (F0 m pc ls (gx_t ba b st)) := by
  obtain ⟨len, hd, hlen⟩ := hd
  cases ins with
  | getfield idx =>
    have e1 : len = 3 := by simpa [gx_lok, gx_len] using hlen
    subst e1
    obtain ⟨⟨a, r⟩, h1, h2⟩ := Option.bind_eq_some_iff.mp h
    have h5 := gx_r1_e h1
    subst h5
    obtain ⟨⟨ci, k⟩, h3, h4⟩ := Option.bind_eq_some_iff.mp h2
    obtain ⟨fs, h6, h7⟩ := Option.bind_eq_some_iff.mp h4
    obtain ⟨v, h8, h9⟩ := Option.map_eq_some_iff.mp h7
    cases h9
    have h10 := hr.2 _ _ (gx_ob_e h6)
    obtain ⟨r1, g1, g2, cell, q1, q2, q3, q4⟩ := h10.obj (gx_small h3)
    have hk : k < r1.2.2 := by rw [g2]; exact gx_ilt h8
    obtain ⟨hS, hfc, kC, hkC, hkind⟩ := hK ci _ g1
    obtain ⟨cf, kf, fi, f, hi, hsl⟩ := hS k hk
    refine W.getf hx hb hown (hw _ (gx_F_w h3 g1)) hi (u_facts hfc hkC (u_lays hw (gx_wC g1) hk) hi).1 q1 (gx_known q3) (v := gx_v ba b v) ?_ rfl rfl hd (kk _ hl)
    rw [hsl, q4 k hk]
    simp [vp_V, h8]
  | iaload =>
    have e1 : len = 1 := by simpa [gx_lok, gx_len] using hlen
    subst e1
    simp only [gx_q] at h
    split at h
    · rename_i q hq
      obtain ⟨i, a, r⟩ := q
      have h5 := gx_ar_e hq
      subst h5
      obtain ⟨x, h1, h2⟩ := Option.map_eq_some_iff.mp h
      obtain ⟨v, h3, h4⟩ := Option.bind_eq_some_iff.mp h1
      have h6 := gx_i1_e h4
      subst h6
      cases h2
      obtain ⟨vs, g1, g2, g3⟩ := gx_rd_e h3
      obtain ⟨cell, q1, q2, q3, q4⟩ := (hr.2 _ _ g1).arr (t := 0)
      exact W.iald hx hb q1 (gx_arrOf hA (t := 0) (by decide) q2 q3) (gx_known q3) (gx_inb g2 (gx_ilt g3) (gx_size q4)) (gx_slot q4 g3) rfl rfl hd (kk _ hl)
    · obtain ⟨⟨i, z, r⟩, h1, h2⟩ := Option.bind_eq_some_iff.mp h
      have h5 := gx_sc_e h1
      subst h5
      obtain ⟨lx, hlx, h2⟩ := Option.bind_eq_some_iff.mp h2
      dsimp only at h2
      split at h2
      · cases h2
      · rename_i hn
        obtain ⟨x, h3, h4⟩ := Option.map_eq_some_iff.mp h2
        cases h4
        obtain ⟨scr, q1, q2, q3, q4, q5⟩ := hX lx hlx
        have hlt : i.toNatClampNeg < lx.length := by
          rcases Nat.lt_or_ge i.toNatClampNeg lx.length with q | q
          · exact q
          · rw [List.getElem?_eq_none q] at h3; cases h3
        exact W.iald hx hb q1 q2 q3 (gx_inb hn hlt q4) (q5 _ _ h3) rfl rfl hd (kk _ hl)
  | laload =>
    have e1 : len = 1 := by simpa [gx_lok, gx_len] using hlen
    subst e1
    obtain ⟨⟨i, a, r⟩, h0', h0''⟩ := Option.bind_eq_some_iff.mp h
    have h5 := gx_ar_e h0'
    subst h5
    obtain ⟨x, h1, h2⟩ := Option.map_eq_some_iff.mp h0''
    obtain ⟨v, h3, h4⟩ := Option.bind_eq_some_iff.mp h1
    have h6 := gx_l1_e h4
    subst h6
    cases h2
    obtain ⟨vs, g1, g2, g3⟩ := gx_rd_e h3
    obtain ⟨cell, q1, q2, q3, q4⟩ := (hr.2 _ _ g1).arr (t := 1)
    exact W.lald hx hb q1 (gx_arrOf hA (t := 1) (by decide) q2 q3) (gx_known q3) (gx_inb g2 (gx_ilt g3) (gx_size q4)) (gx_slot q4 g3) rfl rfl hd (kk _ hl)
  | baload =>
    have e1 : len = 1 := by simpa [gx_lok, gx_len] using hlen
    subst e1
    obtain ⟨⟨i, a, r⟩, h0', h0''⟩ := Option.bind_eq_some_iff.mp h
    have h5 := gx_ar_e h0'
    subst h5
    obtain ⟨x, h1, h2⟩ := Option.map_eq_some_iff.mp h0''
    obtain ⟨v, h3, h4⟩ := Option.bind_eq_some_iff.mp h1
    have h6 := gx_i1_e h4
    subst h6
    cases h2
    obtain ⟨vs, g1, g2, g3⟩ := gx_rd_e h3
    obtain ⟨cell, q1, q2, q3, q4⟩ := (hr.2 _ _ g1).arr (t := 2)
    exact W.zald hx hb q1 (gx_arrOf hA (t := 2) (by decide) q2 q3) (gx_known q3) (gx_inb g2 (gx_ilt g3) (gx_size q4)) (gx_slot q4 g3) rfl rfl hd (kk _ hl)
  | aaload =>
    have e1 : len = 1 := by simpa [gx_lok, gx_len] using hlen
    subst e1
    obtain ⟨⟨i, a, r⟩, h0', h0''⟩ := Option.bind_eq_some_iff.mp h
    have h5 := gx_ar_e h0'
    subst h5
    dsimp only at h0''
    split at h0''
    · rename_i v h3
      split at h0''
      · cases h0''
        obtain ⟨vs, g1, g2, g3⟩ := gx_rd_e h3
        obtain ⟨cell, q1, q2, q3, q4⟩ := (hr.2 _ _ g1).arr (t := 3)
        exact W.aald hx hb q1 (gx_arrOf hA (t := 3) (by decide) q2 q3) rfl (gx_known q3) (gx_inb g2 (gx_ilt g3) (gx_size q4)) (gx_slot q4 g3) rfl rfl hd (kk _ hl)
      · cases h0''
    · obtain ⟨v, h3, h4⟩ := Option.bind_eq_some_iff.mp h0''
      split at h4
      · cases h4
        obtain ⟨vs, g1, g2, g3⟩ := gx_rd_e h3
        obtain ⟨cell, q1, q2, q3, q4⟩ := (hr.2 _ _ g1).arr (t := 4)
        exact W.aald hx hb q1 (gx_arrOf hA (t := 4) (by decide) q2 q3) rfl (gx_known q3) (gx_inb g2 (gx_ilt g3) (gx_size q4)) (gx_slot q4 g3) rfl rfl hd (kk _ hl)
      · cases h4
  | arraylength =>
    have e1 : len = 1 := by simpa [gx_lok, gx_len] using hlen
    subst e1
    simp only [gx_q] at h
    split at h
    · obtain ⟨lx, hlx, h2⟩ := Option.map_eq_some_iff.mp h
      cases h2
      obtain ⟨scr, q1, q2, q3, q4, q5⟩ := hX lx hlx
      exact W.alen hx hb q1 q2 (by rw [q4]) rfl rfl hd (kk _ hl)
    · cases h
  | _ => cases h
end GXQ
end
section
/-! what is written -/
def gx_fok (ini : Bool) (o ci k : Nat) (v : Value) : Bool := match gx_cl[ci]? with
  | some r => decide (narrow (gx_fty ci k) v = v) && (fits (gx_fty ci k) v && (!gx_fl v && (!(r.2.1 k).2.2.2 || (ini && decide ((r.2.1 k).1 = gx_o o)))))
  | none => false
def gx_wr (h : gx_H) (a t : Nat) (i : Int32) (v : Value) : Option gx_H := match h[a]? with
  | some q => if q.1 = t ∧ ¬ i < 0 ∧ i.toNatClampNeg < q.2.length then some (h.set a (t, q.2.set i.toNatClampNeg v)) else none
  | none => none
theorem gx_wr_e {h h' : gx_H} {a t : Nat} {i : Int32} {v : Value} (e : gx_wr h a t i v = some h') : ∃ vs, h[a]? = some (t, vs) ∧ ¬ i < 0 ∧ i.toNatClampNeg < vs.length ∧ h' = h.set a (t, vs.set i.toNatClampNeg v) := by
  unfold gx_wr at e
  split at e
  · rename_i q hq
    obtain ⟨t', vs⟩ := q
    split at e
    · rename_i cnd
      obtain ⟨c1, c2, c3⟩ := cnd
      cases c1
      cases e
      exact ⟨vs, hq, c2, c3, rfl⟩
    · cases e
  · cases e
abbrev gx_S : Type := Option (Nat × List Value × gx_H)
def gx_w (o : Nat) (ini : Bool) (h : gx_H) (ins : Instr) (pc : Nat) (st : List Value) : gx_S := match ins with
  | .putfield idx => match st with
    | v :: .ref a :: r => (gx_F o idx).bind fun f => (gx_ob h a f.1).bind fun fs => if gx_fok ini o f.1 f.2 v = true ∧ f.2 < fs.length then some (pc + 3, r, h.set a (f.1, fs.set f.2 v)) else none
    | _ => none
  | .iastore => match st with
    | .int x :: .int i :: .ref a :: r => (gx_wr h a 100 i (.int x)).map fun h' => (pc + 1, r, h')
    | _ => none
  | .lastore => match st with
    | .long x :: .int i :: .ref a :: r => (gx_wr h a 101 i (.long x)).map fun h' => (pc + 1, r, h')
    | _ => none
  | .bastore => match st with
    | .int x :: .int i :: .ref a :: r => (gx_wr h a 102 i (.int (x &&& 1))).map fun h' => (pc + 1, r, h')
    | _ => none
  | .aastore => match st with
    | .ref v :: .int i :: .ref a :: r => (gx_ob h v gx_ei).bind fun _ => (gx_wr h a 103 i (.ref v)).map fun h' => (pc + 1, r, h')
    | _ => none
  | _ => none
theorem gx_v_narrow {ty : FieldType} {ba b : Nat} {v : Value} (h : narrow ty v = v) (hf : gx_fl v = false) : narrow ty (gx_v ba b v) = gx_v ba b v := by
  cases v with
  | ref a => cases ty <;> rfl
  | float a => cases hf
  | _ => exact h
theorem gx_v_fits {ty : FieldType} {ba b : Nat} {v : Value} (h : fits ty v = true) (hf : gx_fl v = false) : fits ty (gx_v ba b v) = true := by
  cases v with
  | ref a => cases ty <;> first | rfl | exact h
  | float a => cases hf
  | _ => exact h
theorem gx_setSlot {ba b : Nat} {vs : List Value} {cell : Cell} (h : cell.slots = (gx_t ba b vs).toArray) (i : Nat) (v : Value) : (cell.setSlot i (gx_v ba b v)).slots = (gx_t ba b (vs.set i v)).toArray := by
  simp [Cell.setSlot, h, gx_t, List.map_set]
theorem gx_arrAt {D : va_G} {aC : Nat → ClassId} {ba b a t i : Nat} {vs : List Value} {v : Value} {cell : Cell} {H1 : Heap} (e1 : H1[a]? = some (cell.setSlot i (gx_v ba b v))) (q2 : cell.cls = aC t) (q3 : cell.vm = .none) (q4 : cell.slots = (gx_t ba b vs).toArray) : gx_at D aC ba b a (100 + t, vs.set i v) H1 := by
  unfold gx_at
  rw [if_neg (show ¬ (100 + t) < 100 by omega)]
  exact ⟨_, e1, by show cell.cls = _; rw [q2]; congr 1; show t = 100 + t - 100; omega, q3, gx_setSlot q4 i v⟩
section GXW
variable {p : Program} {l : Launch} {e : Env} {R : Room} {s : State} {m : MethodId} {args : Array Value} {below : List Frame} {meth : Method} {c : Code} {H : Heap} {locs : List Loc} {cells slots : Nat} {Q : State → Prop}
variable {cc : ByteArray} {ls : Array Slot} {D : va_G} {aC : Nat → ClassId} {ba b : Nat} {h0 : gx_H}
theorem gx_ne {q ba a : Nat} (h : q < ba) : q ≠ ba + a := by omega
theorem gx_lo1 {ba a i : Nat} {locs : List Loc} (h : ∀ q ∈ locs, ba ≤ q.base) : ∀ q ∈ locs ++ [(⟨ba + a, i⟩ : Loc)], ba ≤ q.base := by
  intro q hq
  rcases List.mem_append.mp hq with g | g
  · exact h q g
  · rw [List.mem_singleton] at g
    subst g
    exact Nat.le_add_right _ _
set_option maxHeartbeats 4000000 in
theorem gx_wW (hx : p.tables.exec = Jvm.exec) (hb : c.code = cc) {o : Nat} {ini : Bool} (hini : ini = true → meth.name = "<init>") (hown : s.vm.findClass (gx_o o) = some m.cls) (hw : ∀ w ∈ gx_words, w.before args s = true) (hK : gx_KN s D) (hA : gx_AK s aC) (hr : gx_rel D aC ba b h0 H) (hlo : ∀ q ∈ locs, ba ≤ q.base)
    {ins : Instr} {pc pc' : Nat} {st st' : List Value} {h1 : gx_H} (hd : ∃ len, decode cc pc = .ok (ins, len) ∧ gx_lok ins len = true) (h : gx_w o ini h0 ins pc st = some (pc', st', h1))
    (kk : ∀ (H1 : Heap) (locs1 : List Loc), gx_rel D aC ba b h1 H1 → (∀ q ∈ locs1, ba ≤ q.base) → (∀ q, q < ba → H1[q]? = H[q]?) → W p l e R s m args below meth c H1 locs1 cells slots Q (F0 m pc' ls (gx_t ba b st'))) :
    W p l e R s m args below meth c H locs cells slots Q (F0 m pc ls (gx_t ba b st)) := by
  obtain ⟨len, hd, hlen⟩ := hd
  cases ins with
  | putfield idx =>
    have e1 : len = 3 := by simpa [gx_lok, gx_len] using hlen
    subst e1
    simp only [gx_w] at h
    split at h
    · rename_i v a r
      obtain ⟨⟨ci, k⟩, h3, h4⟩ := Option.bind_eq_some_iff.mp h
      obtain ⟨fs, h6, h7⟩ := Option.bind_eq_some_iff.mp h4
      split at h7
      · rename_i hc
        obtain ⟨hf, hlf⟩ := hc
        cases h7
        have hob := gx_ob_e h6
        obtain ⟨r1, g1, g2, cell, q1, q2, q3, q4⟩ := (hr.2 _ _ hob).obj (gx_small h3)
        have hk : k < r1.2.2 := by rw [g2]; exact hlf
        unfold gx_fok at hf
        simp only [g1] at hf
        simp only [Bool.and_eq_true, Bool.or_eq_true, decide_eq_true_eq] at hf
        obtain ⟨f1, f2, f3, f4⟩ := hf
        have f3 : gx_fl v = false := by simpa using f3
        have n1 := gx_v_narrow (ba := ba) (b := b) f1 f3
        have n2 := gx_v_fits (ba := ba) (b := b) f2 f3
        have hty := gx_ftyok ci r1 g1
        have hap := va_apart (own := gx_o o) hw (gx_wC g1) (gx_fty ci) hty (gx_nm ci r1 g1) (tys := []) ⟨hK, fun k q hq => by cases hq⟩ g1
        obtain ⟨hS, hfc, kC, hkC, hkind⟩ := hK ci _ g1
        obtain ⟨cf, kf, fi, f, hi, hsl⟩ := hS k hk
        have hst := (u_facts hfc hkC (u_lays hw (gx_wC g1) hk) hi).1
        have hin : u_lay r1.1 r1.2.1 k ∈ gx_words := gx_wC g1 _ (u_in_lay hk)
        have hlay := hw _ hin
        have fin : ∀ H' : Heap, H'[ba + a]? = some (cell.setSlot (D.2 ci k) (gx_v ba b v)) → H'.size = H.size → (∀ q, q ≠ ba + a → H'[q]? = H[q]?) → gx_rel D aC ba b (h0.set a (ci, fs.set k v)) H' := by
          intro H' e1 e2 e3
          refine hr.set e2 e3 ?_
          unfold gx_at
          rw [if_pos (gx_small h3)]
          refine ⟨r1, g1, by rw [g2]; simp, t_OB.to (V := updV (fun k => gx_v ba b (vp_V fs k)) k (gx_v ba b v)) ⟨_, e1, q2, q3, t_set q4 hap hk _⟩ (fun j _ => ?_)⟩
          by_cases hj : j = k
          · subst hj
            simp [updV, vp_V, hlf]
          · simp [updV, vp_V, hj, List.getD_eq_getElem?_getD, List.getElem?_set_ne (Ne.symm hj)]
        by_cases hfin : (r1.2.1 k).2.2.2 = true
        · have f5 : ini = true ∧ (r1.2.1 k).1 = gx_o o := by
            rcases f4 with q | q
            · rw [hfin] at q; cases q
            · exact q
          unfold u_lay at hlay
          rw [if_pos hfin] at hlay
          have hcf : m.cls = cf := by
            obtain ⟨_, _, c', _, _, _, -, -, hf', -, -, -, hown2, -⟩ := Cond.laysFinal_spec hlay
            have e1 : c' = cf := by have := hi.symm.trans hf'; simp at this; exact this.1.symm
            rw [f5.2] at hown2
            rw [← e1]; exact Option.some.inj (hown.symm.trans hown2)
          have h6 := u_fits hfc hkC hkind (Or.inr hlay) hi (hty k hk) n1 n2
          refine W.putFinK hx hb hown (hw _ (gx_F_w h3 g1)) hi hst hcf (hini f5.1) (by rw [q2]; exact h6) q1 q3 (by rw [hsl]; exact k2_hasslot (q4 k hk)) rfl rfl hd fun H' e1 e2 e3 => ?_
          rw [hsl] at e1 ⊢
          exact kk H' _ (fin H' e1 e2 e3) (gx_lo1 hlo) (fun q hq => e3 q (gx_ne hq))
        · have hfin : (r1.2.1 k).2.2.2 = false := by simpa using hfin
          unfold u_lay at hlay
          rw [if_neg (by rw [hfin]; decide)] at hlay
          have h6 := u_store hfc hkC hkind hlay hi (hty k hk) n1 n2
          refine W.putK hx hb (f := f) ⟨hown, hw _ (gx_F_w h3 g1), ⟨_, _, _, hi⟩, hst⟩ (by rw [q2]; exact h6) q1 q3 (by rw [hsl]; exact k2_hasslot (q4 k hk)) rfl rfl hd fun H' e1 e2 e3 => ?_
          rw [hsl] at e1 ⊢
          exact kk H' _ (fin H' e1 e2 e3) (gx_lo1 hlo) (fun q hq => e3 q (gx_ne hq))
      · cases h7
    · cases h
  | iastore =>
    have e1 : len = 1 := by simpa [gx_lok, gx_len] using hlen
    subst e1
    simp only [gx_w] at h
    split at h
    · obtain ⟨h2, h3, h4⟩ := Option.map_eq_some_iff.mp h
      cases h4
      obtain ⟨vs, g1, g2, g3, rfl⟩ := gx_wr_e h3
      obtain ⟨cell, q1, q2, q3, q4⟩ := (hr.2 _ _ g1).arr (t := 0)
      refine W.iast hx hb q1 (gx_arrOf hA (t := 0) (by decide) q2 q3) (gx_known q3) (gx_inb g2 g3 (gx_size q4)) rfl rfl hd fun H' e1 e2 e3 => ?_
      exact kk H' _ (hr.set e2 e3 (gx_arrAt (v := .int _) e1 q2 q3 q4)) (gx_lo1 hlo) (fun q hq => e3 q (gx_ne hq))
    · cases h
  | lastore =>
    have e1 : len = 1 := by simpa [gx_lok, gx_len] using hlen
    subst e1
    simp only [gx_w] at h
    split at h
    · obtain ⟨h2, h3, h4⟩ := Option.map_eq_some_iff.mp h
      cases h4
      obtain ⟨vs, g1, g2, g3, rfl⟩ := gx_wr_e h3
      obtain ⟨cell, q1, q2, q3, q4⟩ := (hr.2 _ _ g1).arr (t := 1)
      refine W.last hx hb q1 (gx_arrOf hA (t := 1) (by decide) q2 q3) (gx_known q3) (gx_inb g2 g3 (gx_size q4)) rfl rfl hd fun H' e1 e2 e3 => ?_
      exact kk H' _ (hr.set e2 e3 (gx_arrAt (v := .long _) e1 q2 q3 q4)) (gx_lo1 hlo) (fun q hq => e3 q (gx_ne hq))
    · cases h
  | bastore =>
    have e1 : len = 1 := by simpa [gx_lok, gx_len] using hlen
    subst e1
    simp only [gx_w] at h
    split at h
    · obtain ⟨h2, h3, h4⟩ := Option.map_eq_some_iff.mp h
      cases h4
      obtain ⟨vs, g1, g2, g3, rfl⟩ := gx_wr_e h3
      obtain ⟨cell, q1, q2, q3, q4⟩ := (hr.2 _ _ g1).arr (t := 2)
      refine W.zast hx hb q1 (gx_arrOf hA (t := 2) (by decide) q2 q3) (gx_known q3) (gx_inb g2 g3 (gx_size q4)) rfl rfl hd fun H' e1 e2 e3 => ?_
      exact kk H' _ (hr.set e2 e3 (gx_arrAt (v := .int _) e1 q2 q3 q4)) (gx_lo1 hlo) (fun q hq => e3 q (gx_ne hq))
    · cases h
  | aastore =>
    have e1 : len = 1 := by simpa [gx_lok, gx_len] using hlen
    subst e1
    simp only [gx_w] at h
    split at h
    · obtain ⟨fv, h5, h6⟩ := Option.bind_eq_some_iff.mp h
      obtain ⟨h2, h3, h4⟩ := Option.map_eq_some_iff.mp h6
      cases h4
      obtain ⟨vs, g1, g2, g3, rfl⟩ := gx_wr_e h3
      obtain ⟨cell, q1, q2, q3, q4⟩ := (hr.2 _ _ g1).arr (t := 3)
      obtain ⟨r1, w1, w2, cellV, v1, v2, v3, -⟩ := (hr.2 _ _ (gx_ob_e h5)).obj gx_ei_lt
      have hcls := (hK gx_ei r1 w1).2
      have hnm := gx_ei_nm w1
      obtain ⟨kA, comp, k1, k2, -, k3⟩ := hA 3 (by decide)
      have hcomp : comp = D.1 gx_ei := Option.some.inj ((k3 rfl).symm.trans (by rw [← hnm]; exact hcls.1))
      subst hcomp
      obtain ⟨kC, hkC, -⟩ := hcls.2
      refine W.aast hx hb q1 (fun q h => by rw [q3] at h; cases h) (gx_known q3) (by rw [q2]; exact k1) k2 rfl hkC ⟨g2, by rw [gx_size q4]; exact g3⟩ v1 (fun q h => by rw [v3] at h; cases h) (by rw [v2]; exact hkC) (by rw [v2]; exact va_assign hcls) rfl rfl hd fun H' e1 e2 e3 => ?_
      exact kk H' _ (hr.set e2 e3 (gx_arrAt (v := .ref _) e1 q2 q3 q4)) (gx_lo1 hlo) (fun q hq => e3 q (gx_ne hq))
    · cases h
  | _ => cases h
end GXW
end
section
/-! what is made -/
def gx_dv (ci : Nat) : List Value := match gx_cl[ci]? with
  | some r => (List.range r.2.2).map (fun k => defaultValue (gx_fty ci k))
  | none => []
def gx_tag : ArrayType → Option Nat
  | .int => some 0
  | .long => some 1
  | .boolean => some 2
  | _ => none
def gx_ct (o idx : Nat) : Option Nat := (gx_CT.find? (fun q => q.1 == o && q.2.1 == idx)).map (fun q => q.2.2)
/-- behind it: pc, stack, heap, how many cells and slots more -/
abbrev gx_M : Type := Option (Nat × List Value × gx_H × Nat × Nat)
def gx_n (o : Nat) (h : gx_H) (ins : Instr) (pc : Nat) (st : List Value) : gx_M := match ins with
  | .new idx => (gx_ct o idx).bind fun ci => if ci < 100 then some (pc + 3, .ref h.length :: st, h ++ [(ci, gx_dv ci)], 1, (gx_dv ci).length) else none
  | .newarray at' => (gx_a1 st).bind fun q => (gx_tag at').bind fun t => if q.1 < 0 ∨ 100000 < q.1.toNatClampNeg then none else some (pc + 2, .ref h.length :: q.2, h ++ [(100 + t, List.replicate q.1.toNatClampNeg (defaultValue (gx_ty t)))], 1, q.1.toNatClampNeg)
  | .anewarray idx => (gx_a1 st).bind fun q => (gx_ct o idx).bind fun ci => if ci ≠ gx_ei ∨ q.1 < 0 ∨ 100000 < q.1.toNatClampNeg then none else some (pc + 3, .ref h.length :: q.2, h ++ [(103, List.replicate q.1.toNatClampNeg .null)], 1, q.1.toNatClampNeg)
  | _ => none
theorem gx_ct_w {o idx ci : Nat} (h : gx_ct o idx = some ci) {r : vw_C} (hr : gx_cl[ci]? = some r) : Jvm.Cond.classLink (gx_o o) idx r.1 ∈ gx_words ∧ Jvm.Cond.instantiable r.1 r.2.2 ∈ gx_words ∧ Jvm.Cond.initialized r.1 ∈ gx_words := by
  have h1 := gx_find h
  refine ⟨gx_wN (List.mem_flatMap.mpr ⟨_, h1, ?_⟩), gx_wN (List.mem_flatMap.mpr ⟨_, h1, ?_⟩), gx_wN (List.mem_flatMap.mpr ⟨_, h1, ?_⟩)⟩ <;> simp [gx_nw, hr]
theorem gx_replicate {ba b n : Nat} {v : Value} (hv : gx_v ba b v = v) : (Array.replicate n v) = (gx_t ba b (List.replicate n v)).toArray := by
  simp [gx_t, hv]
theorem gx_arrNew {D : va_G} {aC : Nat → ClassId} {ba b a t n : Nat} {v : Value} {H1 : Heap} (hv : gx_v ba b v = v) (e : H1[a]? = some { cls := aC t, slots := Array.replicate n v, vm := .none }) : gx_at D aC ba b a (100 + t, List.replicate n v) H1 := by
  unfold gx_at
  rw [if_neg (show ¬ (100 + t) < 100 by omega)]
  exact ⟨_, e, by show aC t = _; congr 1; show t = 100 + t - 100; omega, rfl, gx_replicate hv⟩
section GXN
variable {p : Program} {l : Launch} {e : Env} {R : Room} {s : State} {m : MethodId} {args : Array Value} {below : List Frame} {meth : Method} {c : Code} {H : Heap} {locs : List Loc} {cells slots : Nat} {Q : State → Prop}
variable {cc : ByteArray} {ls : Array Slot} {D : va_G} {aC : Nat → ClassId} {ba b : Nat} {h0 : gx_H}
theorem gx_push_size {H : Heap} {x : Cell} : (H.push x).size = H.size + 1 := Array.size_push x
theorem gx_push_old {H : Heap} {x : Cell} (q : Nat) (hq : q < H.size) : (H.push x)[q]? = H[q]? := by
  rw [Array.getElem?_push, if_neg (Nat.ne_of_lt hq)]
theorem gx_push_new {H : Heap} {x : Cell} : (H.push x)[H.size]? = some x := by simp
set_option maxHeartbeats 4000000 in
theorem gx_nW (hx : p.tables.exec = Jvm.exec) (hb : c.code = cc) {o : Nat} (hown : s.vm.findClass (gx_o o) = some m.cls) (hw : ∀ w ∈ gx_words, w.before args s = true) (hK : gx_KN s D) (hA : gx_AK s aC) (hr : gx_rel D aC ba b h0 H)
    {ins : Instr} {pc pc' mc ms : Nat} {st st' : List Value} {h1 : gx_H} (hd : ∃ len, decode cc pc = .ok (ins, len) ∧ gx_lok ins len = true) (h : gx_n o h0 ins pc st = some (pc', st', h1, mc, ms)) (hc : cells + mc ≤ R.cells) (hsl : slots + ms ≤ R.slots)
    (kk : ∀ (H1 : Heap), gx_rel D aC ba b h1 H1 → (∀ q, q < ba → H1[q]? = H[q]?) → W p l e R s m args below meth c H1 locs (cells + mc) (slots + ms) Q (F0 m pc' ls (gx_t ba b st'))) :
    W p l e R s m args below meth c H locs cells slots Q (F0 m pc ls (gx_t ba b st)) := by
  obtain ⟨len, hd, hlen⟩ := hd
  have hba : ∀ q, q < ba → q < H.size := fun q hq => by rw [hr.1]; omega
  cases ins with
  | new idx =>
    have e1 : len = 3 := by simpa [gx_lok, gx_len] using hlen
    subst e1
    obtain ⟨ci, h2, h3⟩ := Option.bind_eq_some_iff.mp h
    split at h3
    · rename_i hci
      cases h3
      obtain ⟨r, hrr⟩ := gx_ct_r (gx_find h2)
      obtain ⟨w1, w2, w3⟩ := gx_ct_w h2 hrr
      have hl : (gx_dv ci).length = r.2.2 := by simp [gx_dv, hrr]
      rw [hl] at hsl kk
      have hKn := hK ci _ hrr
      refine W.newcK hx hb hown (hw _ w1) (hw _ w2) (hw _ w3) rfl hd hc hsl hKn.2.1 rfl fun H1 kC hkC e1 z1 o1 => ?_
      have hob : gx_at D aC ba b H.size (ci, gx_dv ci) H1 := by
        unfold gx_at
        rw [if_pos hci]
        refine ⟨r, hrr, hl.symm, (u_born (gx_fty ci) hw (gx_wC hrr) hKn hkC e1 (gx_ftyok ci r hrr)).to fun j hj => ?_⟩
        have e5 : vp_V (gx_dv ci) j = defaultValue (gx_fty ci j) := by simp [vp_V, gx_dv, hrr, List.getD_eq_getElem?_getD, hj]
        show _ = gx_v ba b (vp_V (gx_dv ci) j)
        rw [e5]
        exact (gx_defv (gx_nofl ci r hrr j hj)).symm
      have e6 : ba + h0.length = H.size := hr.1.symm
      have := kk H1 (hr.push z1 o1 hob) (fun q hq => o1 q (hba q hq))
      show W p l e R s m args below meth c H1 locs (cells + 1) (slots + r.2.2) Q (F0 m (pc + 3) ls (.ref H.size :: gx_t ba b st))
      rw [← e6]
      exact this
    · cases h3
  | newarray at' =>
    have e1 : len = 2 := by simpa [gx_lok, gx_len] using hlen
    subst e1
    obtain ⟨⟨n, r⟩, h2, h3⟩ := Option.bind_eq_some_iff.mp h
    have h5 := gx_a1_e h2
    subst h5
    obtain ⟨t, h6, h7⟩ := Option.bind_eq_some_iff.mp h3
    dsimp only at h7
    split at h7
    · cases h7
    · rename_i hn
      cases h7
      have hn1 : ¬ n < 0 := fun q => hn (Or.inl q)
      have hn2 : n.toNatClampNeg ≤ 100000 := Nat.not_lt.mp fun q => hn (Or.inr q)
      have ht : newarray.typeOf at' = gx_ty t ∧ t < 5 ∧ gx_v ba b (defaultValue (gx_ty t)) = defaultValue (gx_ty t) ∧ Jvm.Cond.arrayClass (newarray.typeOf at') ∈ gx_words := by
        cases at' <;> first | cases h6
        · exact ⟨rfl, by decide, rfl, gx_wA (by simp [newarray.typeOf])⟩
        · exact ⟨rfl, by decide, rfl, gx_wA (by simp [newarray.typeOf])⟩
        · exact ⟨rfl, by decide, rfl, gx_wA (by simp [newarray.typeOf])⟩
      obtain ⟨t1, t2, t3, t4⟩ := ht
      refine W.newa hx hb (hw _ t4) rfl hd rfl hn1 ?_ hc hsl fun cA kA comp e1 e2 e3 => ?_
      · rw [t1]
        have : componentBytes (gx_ty t) ≤ 8 := by
          cases at' <;> first | cases h6
          all_goals decide
        calc n.toNatClampNeg * componentBytes (gx_ty t) ≤ 100000 * 8 := Nat.mul_le_mul hn2 this
          _ ≤ 536870912 := by decide
      · rw [t1] at e1 ⊢
        obtain ⟨k, comp', -, -, k3, -⟩ := hA t t2
        have hcA : cA = aC t := Option.some.inj (e1.symm.trans k3)
        subst hcA
        have e6 : ba + h0.length = H.size := hr.1.symm
        have := kk _ (hr.push gx_push_size gx_push_old (gx_arrNew (n := n.toNatClampNeg) t3 gx_push_new)) (fun q hq => gx_push_old q (hba q hq))
        show W p l e R s m args below meth c _ locs (cells + 1) (slots + n.toNatClampNeg) Q (F0 m (pc + 2) ls (.ref H.size :: gx_t ba b r))
        rw [← e6]
        exact this
  | anewarray idx =>
    have e1 : len = 3 := by simpa [gx_lok, gx_len] using hlen
    subst e1
    obtain ⟨⟨n, r⟩, h2, h3⟩ := Option.bind_eq_some_iff.mp h
    have h5 := gx_a1_e h2
    subst h5
    obtain ⟨ci, h6, h7⟩ := Option.bind_eq_some_iff.mp h3
    dsimp only at h7
    split at h7
    · cases h7
    · rename_i hn
      cases h7
      have hn0 : ci = gx_ei := Classical.byContradiction fun q => hn (Or.inl q)
      have hn1 : ¬ n < 0 := fun q => hn (Or.inr (Or.inl q))
      have hn2 : n.toNatClampNeg ≤ 100000 := Nat.not_lt.mp fun q => hn (Or.inr (Or.inr q))
      subst hn0
      obtain ⟨rr, hrr⟩ := gx_ct_r (gx_find h6)
      obtain ⟨w1, w2, w3⟩ := gx_ct_w h6 hrr
      have hnm := gx_ei_nm hrr
      rw [hnm] at w1
      refine W.anew hx hb hown (hw _ w1) (hw _ gx_wO) rfl hd rfl hn1 (by omega) hc hsl fun cA kA comp e1 e2 e3 e4 => ?_
      obtain ⟨k, comp', -, -, k3, -⟩ := hA 3 (by decide)
      have hcA : cA = aC 3 := Option.some.inj (e1.symm.trans k3)
      subst hcA
      have e6 : ba + h0.length = H.size := hr.1.symm
      have := kk _ (hr.push gx_push_size gx_push_old (gx_arrNew (t := 3) (n := n.toNatClampNeg) rfl gx_push_new)) (fun q hq => gx_push_old q (hba q hq))
      show W p l e R s m args below meth c _ locs (cells + 1) (slots + n.toNatClampNeg) Q (F0 m (pc + 3) ls (.ref H.size :: gx_t ba b r))
      rw [← e6]
      exact this
  | _ => cases h
end GXN
end
section
/-! calls: of method j, arguments A (the receiver first), rest: what stays on the stack -/
def gx_mt (o idx : Nat) : Option (Nat × Bool) := (gx_MT.find? (fun q => q.1 == o && q.2.1 == idx)).map (fun q => q.2.2)
def gx_c (o : Nat) (h : gx_H) (ins : Instr) (st : List Value) : Option (Nat × List Value × List Value) := match ins with
  | .invokestatic idx => (gx_mt o idx).bind fun q => if gx_kd q.1 = 0 ∧ gx_np q.1 ≤ st.length then some (q.1, (st.take (gx_np q.1)).reverse, st.drop (gx_np q.1)) else none
  | .invokevirtual idx => (gx_mt o idx).bind fun q => if gx_kd q.1 = 1 ∧ gx_np q.1 ≤ st.length then (gx_r1 (st.drop (gx_np q.1))).bind fun z => (gx_ob h z.1 (gx_rc q.1)).map fun _ => (q.1, .ref z.1 :: (st.take (gx_np q.1)).reverse, z.2) else none
  | .invokespecial idx => (gx_mt o idx).bind fun q => if gx_kd q.1 = 2 ∧ gx_np q.1 ≤ st.length then (gx_r1 (st.drop (gx_np q.1))).map fun z => (q.1, .ref z.1 :: (st.take (gx_np q.1)).reverse, z.2) else none
  | _ => none
theorem gx_sw {o idx j : Nat} {n : Bool} (h : gx_mt o idx = some (j, n)) : (if n = true then Jvm.Cond.methodLinkNest (gx_o o) idx (gx_y j) gx_host else Jvm.Cond.methodLink (gx_o o) idx (gx_y j)) ∈ gx_words ∧ j < gx_nj := by
  have h1 := gx_find h
  exact ⟨gx_wS (List.mem_map.mpr ⟨_, h1, rfl⟩), gx_mtj h1⟩
section GXC
variable {p : Program} {l : Launch} {e : Env} {R : Room} {s : State} {m : MethodId} {args : Array Value} {below : List Frame} {meth : Method} {c : Code} {T : State} {locs : List Loc} {cells slots : Nat}
variable {cc : ByteArray} {ls : Array Slot} {D : va_G} {aC : Nat → ClassId} {ba b : Nat} {h0 : gx_H}
/-- what the tables say of method j -/
theorem gx_meth (hw : ∀ w ∈ gx_words, w.before args s = true) {j : Nat} (hj : j < gx_nj) (hk : gx_kd j ≠ 9) : ∃ (mk : MethodId) (mt : Method) (ct : Code), s.methodNamed? (gx_y j) = some mk ∧ s.vm.method? mk = some mt ∧ mt.code = some ct ∧ ct.code = gx_b j ∧ ct.maxLocals = gx_nl j ∧
    ct.exceptionTable.toList.map (fun h => (h.startPc, h.endPc, h.handlerPc, h.catchType)) = gx_hd j ∧ mt.sig.returnType = gx_rt j ∧ mt.locks = false ∧ mt.sig.parameters.length = gx_np j ∧ ∃ kk : Class, s.vm.classes[mk.cls]? = some kk ∧ kk.init = .initialized := by
  have hc := hw _ (gx_wM0 hj hk).1
  have hi := hw _ (gx_wM0 hj hk).2
  have hnp := gx_npok j hj
  by_cases he : gx_hd j = []
  · rw [if_pos he] at hc
    obtain ⟨mk, hn⟩ := Cond.code_named hc
    obtain ⟨mt, ct, h1, h2, h3, h4, h5, h6, h7, h8⟩ := Cond.code_spec hn hc
    obtain ⟨kP, hkP, -⟩ := className_of_methodNamed hn
    rw [h8] at hnp
    refine ⟨mk, mt, ct, hn, h1, h2, h3, h4, ?_, h5, h6, Option.some.inj hnp, kP, hkP, Cond.initialized_spec (findClass_of_methodNamed hn) hkP hi⟩
    have h0 : ct.exceptionTable.size = 0 := by simpa [Array.isEmpty] using h7
    have h9 : ct.exceptionTable.toList = [] := List.eq_nil_of_length_eq_zero (by simpa using h0)
    rw [h9, he]
    rfl
  · rw [if_neg he] at hc
    obtain ⟨mk, mt, ct, hn, h1, h2, h3, h4, h5, h6, h7, h8⟩ := Cond.codeWith_spec hc
    obtain ⟨kP, hkP, -⟩ := className_of_methodNamed hn
    rw [h8] at hnp
    exact ⟨mk, mt, ct, hn, h1, h2, h3, h4, h5, h6, h7, Option.some.inj hnp, kP, hkP, Cond.initialized_spec (findClass_of_methodNamed hn) hkP hi⟩
theorem gx_stk {st : List Value} {n : Nat} : gx_t ba b st = ((gx_t ba b (st.take n).reverse)).reverse ++ gx_t ba b (st.drop n) := by
  simp only [gx_t, List.map_reverse, List.reverse_reverse, ← List.map_append, List.take_append_drop]
set_option maxHeartbeats 4000000 in
theorem gx_into (X : Stand p l e R s m args below meth c T locs cells slots) (hx : p.tables.exec = Jvm.exec) (hb : c.code = cc) {o : Nat} (hown : s.vm.findClass (gx_o o) = some m.cls) (hw : ∀ w ∈ gx_words, w.before args s = true) (hK : gx_KN s D) (hr : gx_rel D aC ba b h0 T.heap)
    {ins : Instr} {pc j : Nat} {st A rest : List Value} (hd : ∃ len, decode cc pc = .ok (ins, len) ∧ gx_lok ins len = true) (h : gx_c o h0 ins st = some (j, A, rest)) :
    ∃ (vm₁ : Vm) (mk : MethodId), s.methodNamed? (gx_y j) = some mk ∧ j < gx_nj ∧ Stand p l e R s m args below meth c (T.setVm vm₁) locs cells slots ∧ decode cc pc = .ok (ins, 3) ∧
      ∀ target, (∀ acts, Steps p.tables e below (doInvoke e ((T.setVm vm₁).setTop (F0 m pc ls (gx_t ba b rest))) acts mk (gx_t ba b A).toArray).1 target) → Steps p.tables e below (T.setTop (F0 m pc ls (gx_t ba b st))) target := by
  obtain ⟨len, hd, hlen⟩ := hd
  cases ins with
  | invokestatic idx =>
    have e1 : len = 3 := by simpa [gx_lok, gx_len] using hlen
    subst e1
    obtain ⟨⟨j', n⟩, h1, h2⟩ := Option.bind_eq_some_iff.mp h
    dsimp only at h2
    split at h2
    · rename_i hc
      cases h2
      obtain ⟨hs1, hj⟩ := gx_sw h1
      obtain ⟨mk, mt, ct, q1, q2, q3, q4, q5, q6, q7, q8, q9, kP, q10, q11⟩ := gx_meth hw hj (by rw [hc.1]; decide)
      have hsta := hw _ (gx_w0 hj hc.1)
      have hstatic : mt.isStatic = true := Cond.static_spec q1 q2 hsta
      have hln : (gx_t ba b (st.take (gx_np j)).reverse).length = mt.sig.parameters.length := by rw [q9]; simp [gx_t, hc.2]
      have hsite := hw _ hs1
      cases n with
      | true =>
        obtain ⟨vm₁, X₁, st1⟩ := X.invokestaticNest hx hown hsite q1 q2 hstatic q10 q11 (gx_plain j hj).2 (g := F0 m pc ls (gx_t ba b st)) rfl hln (rest := gx_t ba b (st.drop (gx_np j))) gx_stk (by rw [hb]; exact hd)
        exact ⟨vm₁, mk, q1, hj, X₁, hd, st1⟩
      | false =>
        obtain ⟨vm₁, X₁, st1⟩ := X.invokestatic hx hown hsite q1 q2 hstatic q10 q11 (gx_plain j hj).2 (g := F0 m pc ls (gx_t ba b st)) rfl hln (rest := gx_t ba b (st.drop (gx_np j))) gx_stk (by rw [hb]; exact hd)
        exact ⟨vm₁, mk, q1, hj, X₁, hd, st1⟩
    · cases h2
  | invokevirtual idx =>
    have e1 : len = 3 := by simpa [gx_lok, gx_len] using hlen
    subst e1
    obtain ⟨⟨j', n⟩, h1, h2⟩ := Option.bind_eq_some_iff.mp h
    dsimp only at h2
    split at h2
    · rename_i hc
      obtain ⟨⟨a, z⟩, h3, h4⟩ := Option.bind_eq_some_iff.mp h2
      obtain ⟨fs, h5, h6⟩ := Option.map_eq_some_iff.mp h4
      cases h6
      have h7 := gx_r1_e h3
      obtain ⟨hs1, hj⟩ := gx_sw h1
      obtain ⟨mk, mt, ct, q1, q2, q3, q4, q5, q6, q7, q8, q9, kP, q10, q11⟩ := gx_meth hw hj (by rw [hc.1]; decide)
      have hln : (gx_t ba b (st.take (gx_np j)).reverse).length = mt.sig.parameters.length := by rw [q9]; simp [gx_t, hc.2]
      have hstk : gx_t ba b st = (gx_t ba b (st.take (gx_np j)).reverse).reverse ++ .ref (ba + a) :: gx_t ba b z := by
        rw [gx_stk (ba := ba) (b := b) (st := st) (n := gx_np j), h7]
        rfl
      obtain ⟨r1, g1, g2, cell, w1, w2, w3, -⟩ := (hr.2 _ _ (gx_ob_e h5)).obj (gx_rc_lt hj hc.1)
      have hcl := (hK _ _ g1).2.1
      rw [gx_rc_nm hj hc.1 g1] at hcl
      have hinst := hw _ (gx_w1 hj hc.1).1
      have hsel := hw _ (gx_w1 hj hc.1).2
      obtain ⟨mk', mt', i1, i2, i3, i4⟩ := Cond.instanceMethod_spec hinst
      cases q1.symm.trans i1
      cases q2.symm.trans i2
      obtain ⟨c2, r2, m2, s1, s2, s3, s4, kQ, s5, s6⟩ := Cond.selects_spec hsel
      cases hcl.symm.trans s1
      cases (State.methodFound?_of_named q1 (gx_plain j hj).2).symm.trans s2
      cases q1.symm.trans s3
      have hselP : selectMethod e.platform s.vm cell.cls mk = .method mk := by rw [Launch.admits_selectMethod X.admits, w2]; exact s4
      have hsite := hw _ hs1
      cases n with
      | true =>
        obtain ⟨vm₁, X₁, st1⟩ := X.invokevirtualNest hx hown hsite q1 q2 i3 s5 s6 (gx_plain j hj).2 w1 (fun z h => by rw [w3] at h; cases h) hselP q2 i4 s5 s6 (g := F0 m pc ls (gx_t ba b st)) rfl hln (rest := gx_t ba b z) hstk (by rw [hb]; exact hd)
        exact ⟨vm₁, mk, q1, hj, X₁, hd, st1⟩
      | false =>
        obtain ⟨vm₁, X₁, st1⟩ := X.invokevirtual hx hown hsite q1 q2 i3 s5 s6 (gx_plain j hj).2 w1 (fun z h => by rw [w3] at h; cases h) hselP q2 i4 s5 s6 (g := F0 m pc ls (gx_t ba b st)) rfl hln (rest := gx_t ba b z) hstk (by rw [hb]; exact hd)
        exact ⟨vm₁, mk, q1, hj, X₁, hd, st1⟩
    · cases h2
  | invokespecial idx =>
    have e1 : len = 3 := by simpa [gx_lok, gx_len] using hlen
    subst e1
    obtain ⟨⟨j', n⟩, h1, h2⟩ := Option.bind_eq_some_iff.mp h
    dsimp only at h2
    split at h2
    · rename_i hc
      obtain ⟨⟨a, z⟩, h3, h6⟩ := Option.map_eq_some_iff.mp h2
      cases h6
      have h7 := gx_r1_e h3
      obtain ⟨hs1, hj⟩ := gx_sw h1
      obtain ⟨i1, i2, i3, i4⟩ := gx_w2 hj hc.1
      have hinst := hw _ i1
      have hcode := hw _ i2
      have hpl : e.platform.magicAccessors = ({} : Platform).magicAccessors := by rw [X.admits.platform]
      have hln : ∀ sig, parseMethodDescriptor (gx_y j).desc = some sig → (gx_t ba b (st.take (gx_np j)).reverse).length = sig.parameters.length := fun sig hsig => by
        have hnp := gx_npok j hj
        rw [hsig] at hnp
        have hnp : sig.parameters.length = gx_np j := Option.some.inj hnp
        rw [hnp]
        simp [gx_t, hc.2]
      have hstk : gx_t ba b st = (gx_t ba b (st.take (gx_np j)).reverse).reverse ++ .ref (ba + a) :: gx_t ba b z := by
        rw [gx_stk (ba := ba) (b := b) (st := st) (n := gx_np j), h7]
        rfl
      have hsite := hw _ hs1
      cases n with
      | true =>
        obtain ⟨mk, mt, ct, kP, vm₁, q1, -, -, -, -, -, -, -, hW₁, st1⟩ := Steps.initColdArgsNest (e := e) X.here hx X.warmed hpl hown i3 (gx_plain j hj).2 hsite hinst hcode (f := F0 m pc ls (gx_t ba b st)) rfl hln hstk (by rw [hb]; exact hd)
        exact ⟨vm₁, mk, q1, hj, X.noted hW₁, hd, st1⟩
      | false =>
        obtain ⟨mk, mt, ct, kP, vm₁, q1, -, -, -, -, -, -, -, hW₁, st1⟩ := Steps.initColdArgs (e := e) X.here hx X.warmed hpl hown i3 (gx_plain j hj).2 hsite hinst hcode (f := F0 m pc ls (gx_t ba b st)) rfl hln hstk (by rw [hb]; exact hd)
        exact ⟨vm₁, mk, q1, hj, X.noted hW₁, hd, st1⟩
    · cases h2
  | _ => cases h
end GXC
end
section
/-! Object.<init>, System.arraycopy of ints, new int[n][k] -/
def gx_sp (at_ : Nat) (xs : List (Value × Nat)) (vs : List Value) : List Value := xs.foldl (fun vs q => vs.set (at_ + q.2) q.1) vs
def gx_cpy (src dst : List Value) (sp dp n : Nat) : List Value := gx_sp dp (((List.range n).map fun i => src.getD (sp + i) .null).zipIdx) dst
def gx_ot (o idx : Nat) : Bool := gx_OT.any (fun q => q.1 == o && q.2.1 == idx)
def gx_ac (o idx : Nat) : Bool := gx_AT.any (fun q => q.1 == o && q.2.1 == idx)
def gx_rt2 (o idx : Nat) : Bool := gx_RT.any (fun q => q.1 == o && q.2.1 == idx)
def gx_bi (o : Nat) (h : gx_H) (ins : Instr) (pc : Nat) (st : List Value) : gx_S := match ins with
  | .invokespecial idx => (gx_r1 st).bind fun q => if gx_ot o idx = true ∧ (q.2.map fun v => v.category).sum ≤ 8 then some (pc + 3, q.2, h) else none
  | .invokestatic idx => match st with
    | .int n :: .int dp :: .ref a :: .int sp :: .ref a0 :: r => (gx_ob h a0 100).bind fun vs => (gx_ob h a 100).bind fun ws =>
      if gx_ac o idx = true ∧ (r.map fun v => v.category).sum ≤ 8 ∧ ¬ sp < 0 ∧ ¬ dp < 0 ∧ ¬ n < 0 ∧ sp.toNatClampNeg + n.toNatClampNeg ≤ vs.length ∧ dp.toNatClampNeg + n.toNatClampNeg ≤ ws.length ∧ vs.all (fun v => (gx_i1 v).isSome) = true then some (pc + 3, r, h.set a (100, gx_cpy vs ws sp.toNatClampNeg dp.toNatClampNeg n.toNatClampNeg)) else none
    | _ => none
  | _ => none
def gx_mu (o : Nat) (h : gx_H) (ins : Instr) (pc : Nat) (st : List Value) : gx_M := match ins with
  | .multianewarray idx dims => (gx_a2 st).bind fun q => if gx_rt2 o idx = true ∧ dims = 2 ∧ ¬ q.2.1 < 0 ∧ ¬ q.1 < 0 ∧ q.2.1.toNatClampNeg ≤ 1000 ∧ q.1.toNatClampNeg ≤ 1000 then
      some (pc + 4, .ref h.length :: q.2.2, h ++ ((104, (List.range q.2.1.toNatClampNeg).map (fun i => Value.ref (h.length + 1 + i))) :: List.replicate q.2.1.toNatClampNeg (100, List.replicate q.1.toNatClampNeg (.int 0))), 1 + q.2.1.toNatClampNeg, q.2.1.toNatClampNeg + q.2.1.toNatClampNeg * q.1.toNatClampNeg) else none
  | _ => none
theorem gx_at_arr {D : va_G} {aC : Nat → ClassId} {ba b a t : Nat} {vs : List Value} {H : Heap} (h : ∃ ce : Cell, H[a]? = some ce ∧ ce.cls = aC t ∧ ce.vm = .none ∧ ce.slots = (gx_t ba b vs).toArray) : gx_at D aC ba b a (100 + t, vs) H := by
  unfold gx_at
  rw [if_neg (show ¬ (100 + t) < 100 by omega)]
  obtain ⟨ce, h1, h2, h3⟩ := h
  exact ⟨ce, h1, by rw [h2]; congr 1; show t = 100 + t - 100; omega, h3⟩
theorem gx_any {l : List (Nat × Nat × Unit)} {o idx : Nat} (h : l.any (fun q => q.1 == o && q.2.1 == idx) = true) : (o, idx, ()) ∈ l := by
  obtain ⟨⟨a, i, z⟩, h1, h2⟩ := List.any_eq_true.mp h
  simp only [Bool.and_eq_true, beq_iff_eq] at h2
  obtain ⟨rfl, rfl⟩ := h2
  exact h1
theorem gx_pairs {ba b at_ : Nat} : ∀ (xs : List (Value × Nat)) (vs : List Value) (cell : Cell), cell.slots = (gx_t ba b vs).toArray → (cell.storePairs at_ (xs.map (fun q => (gx_v ba b q.1, q.2)))).slots = (gx_t ba b (gx_sp at_ xs vs)).toArray ∧ (cell.storePairs at_ (xs.map (fun q => (gx_v ba b q.1, q.2)))).cls = cell.cls ∧ (cell.storePairs at_ (xs.map (fun q => (gx_v ba b q.1, q.2)))).vm = cell.vm
  | [], vs, ce, h => ⟨h, rfl, rfl⟩
  | x :: xs, vs, ce, h => gx_pairs xs (vs.set (at_ + x.2) x.1) (ce.setSlot (at_ + x.2) (gx_v ba b x.1)) (gx_setSlot h _ _)
theorem gx_zip {ba b : Nat} : ∀ (l : List Value) (i : Nat), (l.map (gx_v ba b)).zipIdx i = (l.zipIdx i).map (fun q => (gx_v ba b q.1, q.2))
  | [], _ => rfl
  | x :: l, i => by
    rw [List.map_cons, List.zipIdx_cons, List.zipIdx_cons, List.map_cons, gx_zip l (i + 1)]
theorem gx_stretch {ba b sp n : Nat} {vs : List Value} {cell : Cell} (h : cell.slots = (gx_t ba b vs).toArray) : cell.stretch sp n = ((List.range n).map fun i => vs.getD (sp + i) .null).map (gx_v ba b) := by
  unfold Cell.stretch
  rw [List.map_map]
  refine List.map_congr_left fun i _ => ?_
  rw [h]
  simp only [Function.comp, gx_t, Array.getD_eq_getD_getElem?, List.getElem?_toArray, List.getElem?_map, List.getD_eq_getElem?_getD]
  cases vs[sp + i]? <;> rfl
section GXB
variable {p : Program} {l : Launch} {e : Env} {R : Room} {s : State} {m : MethodId} {args : Array Value} {below : List Frame} {meth : Method} {c : Code} {H : Heap} {locs : List Loc} {cells slots : Nat} {Q : State → Prop}
variable {cc : ByteArray} {ls : Array Slot} {D : va_G} {aC : Nat → ClassId} {ba b : Nat} {h0 : gx_H}
theorem gx_nn {z : Int32} (hz : ¬ z < 0) : z.toInt = (z.toNatClampNeg : Int) := by
  have hz0 : (0 : Int) ≤ z.toInt := by
    have := Int32.not_lt.mp hz
    simpa using Int32.le_iff_toInt_le.mp this
  show z.toInt = ((z.toInt.toNat : Nat) : Int)
  omega
set_option maxHeartbeats 4000000 in
theorem gx_biW (hx : p.tables.exec = Jvm.exec) (hb : c.code = cc) {o : Nat} (hml : c.maxLocals = ls.size) (hown : s.vm.findClass (gx_o o) = some m.cls) (hw : ∀ w ∈ gx_words, w.before args s = true) (hA : gx_AK s aC) (hr : gx_rel D aC ba b h0 H) (hlo : ∀ q ∈ locs, ba ≤ q.base) (hR : 8 ≤ R.frames ∧ 300 ≤ R.locals)
    {ins : Instr} {pc pc' : Nat} {st st' : List Value} {h1 : gx_H} (hd : ∃ len, decode cc pc = .ok (ins, len) ∧ gx_lok ins len = true) (h : gx_bi o h0 ins pc st = some (pc', st', h1))
    (kk : ∀ (H1 : Heap) (locs1 : List Loc), gx_rel D aC ba b h1 H1 → (∀ q ∈ locs1, ba ≤ q.base) → (∀ q, q < ba → H1[q]? = H[q]?) → W p l e R s m args below meth c H1 locs1 cells slots Q (F0 m pc' ls (gx_t ba b st'))) :
    W p l e R s m args below meth c H locs cells slots Q (F0 m pc ls (gx_t ba b st)) := by
  obtain ⟨len, hd, hlen⟩ := hd
  cases ins with
  | invokespecial idx =>
    have e1 : len = 3 := by simpa [gx_lok, gx_len] using hlen
    subst e1
    obtain ⟨⟨a, r⟩, h2, h3⟩ := Option.bind_eq_some_iff.mp h
    have h5 := gx_r1_e h2
    subst h5
    dsimp only at h3
    split at h3
    · rename_i hc
      cases h3
      have w1 : Jvm.Cond.methodLink (gx_o o) idx objectInit ∈ gx_words := gx_pick gx_cOI.1 gx_cOI.2 (List.mem_append_left _ (List.mem_map.mpr ⟨_, gx_any hc.1, rfl⟩))
      have w2 : Jvm.Cond.instanceMethod objectInit ∈ gx_words := gx_pick gx_cOI.1 gx_cOI.2 (List.mem_append_right _ List.mem_cons_self)
      have w3 : Jvm.Cond.code objectInit ⟨#[0xb1]⟩ 1 none ∈ gx_words := gx_pick gx_cOI.1 gx_cOI.2 (List.mem_append_right _ (List.mem_cons_of_mem _ List.mem_cons_self))
      refine W.objInit hx hb hown (hw _ w1) (hw _ w2) (hw _ w3) rfl hml.symm rfl hd (by omega) ?_ (kk H locs hr hlo (fun q _ => rfl))
      have := hc.2
      show 2 * 0 + ((gx_t ba b st').map fun v => v.category).sum + 12 ≤ R.locals
      rw [gx_t_cat]
      omega
    · cases h3
  | invokestatic idx =>
    have e1 : len = 3 := by simpa [gx_lok, gx_len] using hlen
    subst e1
    simp only [gx_bi] at h
    split at h
    · rename_i n dp a sp a0 r
      obtain ⟨vs, h2, h3⟩ := Option.bind_eq_some_iff.mp h
      obtain ⟨ws, h4, h5⟩ := Option.bind_eq_some_iff.mp h3
      split at h5
      · rename_i hc
        cases h5
        obtain ⟨c1, c2, c3, c4, c5, c6, c7, c8⟩ := hc
        have w1 : Jvm.Cond.methodLink (gx_o o) idx arraycopyName ∈ gx_words := gx_pick gx_cAC.1 gx_cAC.2 (List.mem_append_left _ (List.mem_map.mpr ⟨_, gx_any c1, rfl⟩))
        have w2 : Jvm.Cond.native arraycopyName ∈ gx_words := gx_pick gx_cAC.1 gx_cAC.2 (List.mem_append_right _ List.mem_cons_self)
        have w3 : Jvm.Cond.static arraycopyName ∈ gx_words := gx_pick gx_cAC.1 gx_cAC.2 (List.mem_append_right _ (List.mem_cons_of_mem _ List.mem_cons_self))
        have w4 : Jvm.Cond.initialized "java/lang/System" ∈ gx_words := gx_pick gx_cAC.1 gx_cAC.2 (List.mem_append_right _ (List.mem_cons_of_mem _ (List.mem_cons_of_mem _ List.mem_cons_self)))
        obtain ⟨cs, s1, s2, s3, s4⟩ := (hr.2 _ _ (gx_ob_e h2)).arr (t := 0)
        obtain ⟨cd, d1, d2, d3, d4⟩ := (hr.2 _ _ (gx_ob_e h4)).arr (t := 0)
        obtain ⟨k, comp, k1, k2, -⟩ := hA 0 (by decide)
        have hst := gx_stretch (ba := ba) (b := b) (sp := sp.toNatClampNeg) (n := n.toNatClampNeg) s4
        intro T hT X
        obtain ⟨vm', X', step⟩ := X.arraycopy hx hown (hw _ w1) (hw _ w2) (hw _ w3) (hw _ w4) (src := ba + a0) (dst := ba + a) (cs := cs) (cd := cd) (srcPos := sp) (destPos := dp) (n := n) (by rw [hT]; exact s1) (by rw [hT]; exact d1)
          (fun _ h => by rw [s3] at h; cases h) (fun _ h => by rw [d3] at h; cases h) (gx_known s3) (gx_known d3) (by rw [s2]; exact k1) (by rw [d2]; exact k1) k2 k2 rfl c3 c4 c5
          (by rw [gx_nn c3, gx_nn c5, gx_size s4]; omega) (by rw [gx_nn c4, gx_nn c5, gx_size d4]; omega)
          (fun vm₁ _ i hi => by
            have hi2 : sp.toNatClampNeg + i < vs.length := by omega
            have e1 : cs.slots.getD (sp.toNatClampNeg + i) .null = gx_v ba b vs[sp.toNatClampNeg + i] := by
              rw [Array.getD_eq_getD_getElem?, gx_slot s4 (List.getElem?_eq_getElem hi2)]
              rfl
            obtain ⟨x, hx1⟩ := Option.isSome_iff_exists.mp (List.all_eq_true.mp c8 _ (List.getElem_mem hi2))
            rw [e1, gx_i1_e hx1]
            exact ⟨rfl, trivial⟩)
          (g := F0 m pc ls (.int n :: .int dp :: .ref (ba + a) :: .int sp :: .ref (ba + a0) :: gx_t ba b st')) rfl (by rw [hml]) (rest := gx_t ba b st') rfl (by rw [hb]; exact hd) (by omega) (by
            have e7 : nativeFrameWords "java/lang/System" "arraycopy" 5 ≤ 200 := by decide +kernel
            show 2 * 0 + ((gx_t ba b st').map fun v => v.category).sum + _ ≤ _
            rw [gx_t_cat]
            omega)
        have hl : ba + a < H.size := (Array.getElem?_eq_some_iff.mp d1).1
        have e5 : copied cs cd sp dp n = cd.storePairs dp.toNatClampNeg ((((List.range n.toNatClampNeg).map fun i => vs.getD (sp.toNatClampNeg + i) .null).zipIdx).map (fun q => (gx_v ba b q.1, q.2))) := by
          show cd.storeRun _ (cs.stretch _ _) = _
          rw [hst, Cell.storeRun, gx_zip]
        obtain ⟨p1, p2, p3⟩ := gx_pairs (at_ := dp.toNatClampNeg) (((List.range n.toNatClampNeg).map fun i => vs.getD (sp.toNatClampNeg + i) .null).zipIdx) ws cd d4
        have hheap : ((T.setVm vm').setCell (ba + a) (copied cs cd sp dp n)).heap = H.setIfInBounds (ba + a) (copied cs cd sp dp n) := by rw [← hT]; rfl
        obtain ⟨t, a1, b1⟩ := kk (H.setIfInBounds (ba + a) (copied cs cd sp dp n)) _ (hr.set (by simp) (fun q hq => by simp [Array.getElem?_setIfInBounds, Ne.symm hq]) (gx_at_arr (t := 0) ⟨copied cs cd sp dp n, by simp [Array.getElem?_setIfInBounds, hl], by rw [e5, p2]; exact d2, by rw [e5, p3]; exact d3, by rw [e5]; exact p1⟩))
          (fun q hq => by
            rcases List.mem_append.mp hq with g | g
            · exact hlo q g
            · obtain ⟨z, -, hz⟩ := List.mem_map.mp g
              rw [← hz]
              exact Nat.le_add_right _ _)
          (fun q hq => by simp [Array.getElem?_setIfInBounds, show ba + a ≠ q by omega]) _ hheap X'
        exact ⟨t, step t a1, b1⟩
      · cases h5
    · cases h
  | _ => cases h
end GXB
end
section
section GXM
variable {p : Program} {l : Launch} {e : Env} {R : Room} {s : State} {m : MethodId} {args : Array Value} {below : List Frame} {meth : Method} {c : Code} {H : Heap} {locs : List Loc} {cells slots : Nat} {Q : State → Prop}
variable {cc : ByteArray} {ls : Array Slot} {D : va_G} {aC : Nat → ClassId} {ba b : Nat} {h0 : gx_H}
set_option maxHeartbeats 4000000 in
theorem gx_muW (hx : p.tables.exec = Jvm.exec) (hb : c.code = cc) {o : Nat} (hown : s.vm.findClass (gx_o o) = some m.cls) (hw : ∀ w ∈ gx_words, w.before args s = true) (hA : gx_AK s aC) (hr : gx_rel D aC ba b h0 H)
    {ins : Instr} {pc pc' mc ms : Nat} {st st' : List Value} {h1 : gx_H} (hd : ∃ len, decode cc pc = .ok (ins, len) ∧ gx_lok ins len = true) (h : gx_mu o h0 ins pc st = some (pc', st', h1, mc, ms)) (hc : cells + mc ≤ R.cells) (hsl : slots + ms ≤ R.slots)
    (kk : ∀ (H1 : Heap), gx_rel D aC ba b h1 H1 → (∀ q, q < ba → H1[q]? = H[q]?) → W p l e R s m args below meth c H1 locs (cells + mc) (slots + ms) Q (F0 m pc' ls (gx_t ba b st'))) :
    W p l e R s m args below meth c H locs cells slots Q (F0 m pc ls (gx_t ba b st)) := by
  obtain ⟨len, hd, hlen⟩ := hd
  cases ins with
  | multianewarray idx dims =>
    have e1 : len = 4 := by simpa [gx_lok, gx_len] using hlen
    subst e1
    obtain ⟨⟨k, n, r⟩, h2, h3⟩ := Option.bind_eq_some_iff.mp h
    have h5 := gx_a2_e h2
    subst h5
    dsimp only at h3
    split at h3
    · rename_i hcn
      obtain ⟨c1, c2, c3, c4, c5, c6⟩ := hcn
      subst c2
      cases h3
      have w1 : Jvm.Cond.classLink (gx_o o) idx ("[" ++ (FieldType.array .int).toString) ∈ gx_words := gx_pick gx_cMU.1 gx_cMU.2 (List.mem_append_left _ (List.mem_map.mpr ⟨_, gx_any c1, rfl⟩))
      have w2 : Jvm.Cond.arrayOver (.array .int) ∈ gx_words := gx_pick gx_cMU.1 gx_cMU.2 (List.mem_append_right _ List.mem_cons_self)
      have w3 : Jvm.Cond.arrayClass .int ∈ gx_words := gx_wA (by simp)
      intro T hT X
      obtain ⟨vm₁, cA, comp, hW, fA, fC, hO, hI, X', step⟩ := X.multianewarray2F hx hown (hw _ w1) (hw _ w2) (hw _ w3) (g := F0 m pc ls (.int k :: .int n :: gx_t ba b r)) rfl (by rw [hb]; exact hd) rfl c3 c4
        (by omega) (by show _ * 4 ≤ _; omega) (by omega) rfl rfl hc hsl
      obtain ⟨-, -, -, -, k3, -⟩ := hA 4 (by decide)
      obtain ⟨-, -, -, -, k4, -⟩ := hA 0 (by decide)
      have ecA : cA = aC 4 := Option.some.inj (fA.symm.trans k3)
      have ecC : comp = aC 0 := Option.some.inj (fC.symm.trans k4)
      subst ecA
      subst ecC
      obtain ⟨f1, f2, f3, f4⟩ := Jvm.Free.Multi.fill_facts (T.setVm vm₁) (aC 4) (aC 0) n.toNatClampNeg k.toNatClampNeg (defaultValue .int) n.toNatClampNeg
      have hsz : (T.setVm vm₁).heap.size = H.size := by rw [← hT]; rfl
      have hhp : (T.setVm vm₁).heap = H := by rw [← hT]; rfl
      rw [hsz] at f1 f2
      have e6 : ba + h0.length = H.size := hr.1.symm
      have hold : ∀ q, q < H.size → (Jvm.Free.Multi.fill (T.setVm vm₁) (aC 4) (aC 0) n.toNatClampNeg k.toNatClampNeg (defaultValue .int) n.toNatClampNeg).heap[q]? = H[q]? := fun q hq => by
        have := Jvm.Free.Multi.fill_old (T.setVm vm₁) (aC 4) (aC 0) n.toNatClampNeg k.toNatClampNeg (defaultValue .int) (a := q) (by rw [hsz]; exact hq) n.toNatClampNeg
        rw [hhp] at this
        exact this
      have hrel : gx_rel D aC ba b (h0 ++ ((104, (List.range n.toNatClampNeg).map (fun i => Value.ref (h0.length + 1 + i))) :: List.replicate n.toNatClampNeg (100, List.replicate k.toNatClampNeg (.int 0)))) (Jvm.Free.Multi.fill (T.setVm vm₁) (aC 4) (aC 0) n.toNatClampNeg k.toNatClampNeg (defaultValue .int) n.toNatClampNeg).heap := by
        refine ⟨by rw [f1, hr.1]; simp; omega, fun j d hj => ?_⟩
        by_cases q1 : j < h0.length
        · rw [List.getElem?_append_left q1] at hj
          exact (hr.2 j d hj).kept (hold _ (by omega))
        · rw [List.getElem?_append_right (by omega)] at hj
          by_cases q2 : j = h0.length
          · subst q2
            rw [Nat.sub_self] at hj
            cases hj
            rw [e6]
            refine gx_at_arr (t := 4) ⟨_, f2, (Jvm.Free.Multi.outerC_facts _ _ _ _).1, (Jvm.Free.Multi.outerC_facts _ _ _ _).2.1, ?_⟩
            apply Array.ext_getElem?
            intro i
            by_cases hi : i < n.toNatClampNeg
            · rw [Jvm.Free.Multi.outerC_slot _ _ _ _ _ hi, if_pos hi]
              have e9 : H.size + 1 + i = ba + (h0.length + 1 + i) := by omega
              simp only [gx_t, List.getElem?_toArray, List.getElem?_map, List.getElem?_range hi, Option.map_some, gx_v]
              rw [e9]
            · have a1 := (Jvm.Free.Multi.outerC_facts (aC 4) n.toNatClampNeg H.size n.toNatClampNeg).2.2
              have a2 : ((gx_t ba b ((List.range n.toNatClampNeg).map (fun i => Value.ref (h0.length + 1 + i)))).toArray).size = n.toNatClampNeg := by simp [gx_t]
              rw [Array.getElem?_eq_none (Nat.le_trans (Nat.le_of_eq a1) (Nat.not_lt.mp hi)), Array.getElem?_eq_none (Nat.le_trans (Nat.le_of_eq a2) (Nat.not_lt.mp hi))]
          · obtain ⟨z, hz⟩ : ∃ z, j - h0.length = z + 1 := ⟨j - h0.length - 1, by omega⟩
            rw [hz, List.getElem?_cons_succ, List.getElem?_replicate] at hj
            split at hj
            · rename_i hzn
              cases hj
              have e7 : ba + j = H.size + 1 + z := by omega
              rw [e7]
              have := Jvm.Free.Multi.fill_inner (T.setVm vm₁) (aC 4) (aC 0) n.toNatClampNeg k.toNatClampNeg (defaultValue .int) n.toNatClampNeg z hzn
              rw [hsz] at this
              exact gx_arrNew (t := 0) (v := .int 0) rfl this
            · cases hj
      obtain ⟨t, a1, b1⟩ := kk _ hrel (fun q hq => hold q (by omega)) _ rfl (by simpa only [Nat.add_assoc] using X')
      refine ⟨t, step t ?_, b1⟩
      have e8 : T.heap.size = ba + h0.length := by rw [hT]; exact hr.1
      rw [e8]
      exact a1
    · cases h3
  | _ => cases h
end GXM
end
section
section GXT
variable {p : Program} {l : Launch} {e : Env} {R : Room} {s : State} {m : MethodId} {args : Array Value} {below : List Frame} {meth : Method} {c : Code} {T : State} {locs : List Loc} {cells slots : Nat}
/-- an invocation under way, seen as one that begins here -/
theorem gx_rebase (X : Stand p l e R s m args below meth c T locs cells slots) {R' : Room} (h1 : R'.frames ≤ R.frames) (h2 : R'.locals ≤ R.locals) (h3 : cells + R'.cells ≤ R.cells) (h4 : slots + R'.slots ≤ R.slots) : Stand p l e R' (T.setFrames (.invoking m args :: below)) m args below meth c T [] 0 0 := by
  obtain ⟨g₀, hfr⟩ := X.frames_eq
  have hcur : T.cur < T.threads.size := State.cur_lt_of_frames hfr
  obtain ⟨th, hth, -⟩ := State.frames_cons hfr
  have hf' : (T.setFrames (.invoking m args :: below)).frames = .invoking m args :: below := State.frames_setFrames _ hcur
  have hm' : (T.setFrames (.invoking m args :: below)).vm.method? m = some meth := X.method'
  have hroom := X.room
  obtain ⟨hh1, hh2⟩ := X.heapHas h3 h4
  have hloc := State.localsInUse_invoking X.frames X.method X.code
  have hloc' := State.localsInUse_invoking hf' hm' X.code
  refine ⟨X.admits, X.cas, X.clock, hf', ?_, ?_, hm', X.code, X.here, X.tail, State.WarmedH.refl (T.setFrames (.invoking m args :: below)), (State.stackLimits_setFrames _ _ _).symm, (State.stackBytes_setFrames _ _).symm, ?_⟩
  · simp only [State.hasRoom, Bool.and_eq_true, decide_eq_true_eq] at hroom ⊢
    rw [hloc, X.frames] at hroom
    rw [hloc', hf', State.stackLimits_setFrames, X.limits, State.stackBytes_setFrames, X.bytes]
    obtain ⟨⟨⟨⟨r1, r2, r3, r4, r5, r6⟩, -⟩, -⟩, -⟩ := hroom
    refine ⟨⟨⟨⟨by omega, by omega, by omega, by omega, by omega, r6⟩, hh1⟩, hh2⟩, X.book⟩
  · have hh := X.hears
    have hc : ∀ x, (T.setFrames (.invoking m args :: below)).code? x = s.code? x := fun x => by
      rw [State.code?_eq, State.code?_eq]
      show (T.vm.method? x).bind _ = _
      rw [X.warmed.alike.method?]
    have hmm : (T.setFrames (.invoking m args :: below)).vm.method? m = s.vm.method? m := hm'.trans X.method.symm
    revert hh
    unfold State.hears
    split <;> simp only [hc, hmm] <;> exact id
  · obtain ⟨th', hth', -⟩ := State.frames_cons hf'
    have hcur' : (T.setFrames (.invoking m args :: below)).cur < (T.setFrames (.invoking m args :: below)).threads.size := State.cur_lt_of_frames hf'
    have h0 := (State.sameButNew.refl (T.setFrames (.invoking m args :: below)) hth').setFrames T.frames hcur'
    rw [State.setFrames_setFrames, State.setFrames_self hth] at h0
    exact h0
end GXT
end
section
/-! what holds at the law's beginning holds at every state behind it: the tables are warmer, the old cells are as they were -/
def gx_le (s U : State) : Prop := s.WarmedH U.vm ∧ ∀ q, q < s.heap.size → U.heap[q]? = s.heap[q]?
set_option maxHeartbeats 4000000 in
theorem gx_aom {A A' : Array Value} {u U : State} (hvm : u.vm.Alike U.vm) (h : (Jvm.Cond.arrayOver (.array .int)).before A u = true) : (Jvm.Cond.arrayOver (.array .int)).before A' U = true := by
  simp only [Cond.before, Cond.holds, Cond.value, beq_iff_eq, Option.bind_eq_some_iff, Option.map_eq_some_iff] at h ⊢
  obtain ⟨comp, hc, c, hi, k, hk, hb⟩ := h
  obtain ⟨k', hk', he⟩ := hvm.2.2 _ _ hk
  refine ⟨comp, by rw [hvm.findClass]; exact hc, c, ?_, k', hk', ?_⟩
  · refine (va_idx_bare U.vm comp).symm.trans ?_
    first | rw [hvm.bare_eq] | rw [← hvm.bare_eq]
    exact (va_idx_bare u.vm comp).trans hi
  · have e1 : k'.kind = k.kind := by rw [he]
    rw [e1, hvm.findClass]
    exact hb
set_option maxHeartbeats 4000000 in
theorem gx_lsm {O n d : String} {A A' : Array Value} {s U : State} (hL : gx_le s U) (h : (Jvm.Cond.laysStatic O n d).before A s = true) : (Jvm.Cond.laysStatic O n d).before A' U = true := by
  have h1 : (Jvm.Cond.laysStatic O n d).before A (s.setVm U.vm) = true := by
    have := Cond.value_setVm₂ (args := A) (o := none) (vm' := U.vm) (vm₁ := U.vm) (s := s) hL.1.alike hL.1.alike (.laysStatic O n d) [] rfl
    unfold Cond.before Cond.holds at h ⊢
    rw [this]
    exact h
  have e1 : (s.setVm U.vm).fieldFound? O n d = U.fieldFound? O n d := rfl
  simp only [Cond.before, Cond.holds, Cond.value, beq_iff_eq, State.vm_setVm, e1] at h1 ⊢
  split at h1
  · rename_i c c' k z f g1 g2
    obtain ⟨cell, g3, g4⟩ := Option.map_eq_some_iff.mp h1
    obtain ⟨a, g5, g6⟩ := Option.bind_eq_some_iff.mp g3
    have g6 : s.heap[a]? = some cell := g6
    have g7 : U.heap[a]? = some cell := by rw [hL.2 a (Array.getElem?_eq_some_iff.mp g6).1]; exact g6
    refine Option.map_eq_some_iff.mpr ⟨cell, Option.bind_eq_some_iff.mpr ⟨a, g5, g7⟩, g4⟩
  · cases h1
set_option maxHeartbeats 4000000 in
theorem gx_irm {O n d : String} {A A' : Array Value} {s U : State} (hL : gx_le s U) (h : (Jvm.Cond.isRef (.static O n d)).before A s = true) : (Jvm.Cond.isRef (.static O n d)).before A' U = true := by
  have h1 : (Jvm.Cond.isRef (.static O n d)).before A (s.setVm U.vm) = true := by
    have := Cond.value_setVm₂ (args := A) (o := none) (vm' := U.vm) (vm₁ := U.vm) (s := s) hL.1.alike hL.1.alike (.isRef (.static O n d)) [] rfl
    unfold Cond.before Cond.holds at h ⊢
    rw [this]
    exact h
  have key : ∀ v, (Term.static O n d).eval A (s.setVm U.vm) none [] (s.setVm U.vm) = some v → (Term.static O n d).eval A' U none [] U = some v := by
    intro v hv
    have e1 : (s.setVm U.vm).fieldNamed? O n d true = U.fieldNamed? O n d true := rfl
    simp only [Term.eval, e1, Option.bind_eq_bind, Option.bind_eq_some_iff] at hv ⊢
    obtain ⟨⟨z, k, sl⟩, g1, g2⟩ := hv
    obtain ⟨a, g3, cell, g4, g5⟩ := g2
    have g4 : s.heap[a]? = some cell := g4
    exact ⟨(z, k, sl), g1, a, g3, cell, by rw [hL.2 a (Array.getElem?_eq_some_iff.mp g4).1]; exact g4, g5⟩
  simp only [Cond.before, Cond.holds, Cond.value, beq_iff_eq] at h1 ⊢
  cases hv : (Term.static O n d).eval A (s.setVm U.vm) none [] (s.setVm U.vm) with
  | none => rw [hv] at h1; cases h1
  | some v => rw [hv] at h1; rw [key v hv]; exact h1
set_option maxHeartbeats 4000000 in
theorem gx_move {A A' : Array Value} {s U : State} (hL : gx_le s U) {w : Jvm.Cond} (hm : gx_mv w = true) (hin : w ∈ lw_tbl) (h : w.before A s = true) : w.before A' U = true := by
  unfold gx_mv at hm
  rw [Bool.or_eq_true] at hm
  rcases hm with hm | hm
  · exact word_at hL.1 (Or.inl hm) h
  · split at hm
    · exact word_at hL.1 (Or.inr ⟨_, rfl⟩) h
    · exact va_Nw.use rfl (va_Nw.warmM hL.1 (va_Nw.of rfl h))
    · exact va_Nw.use rfl (va_Nw.warmC hL.1 (va_Nw.of rfl h))
    · exact va_Nw.use rfl (va_Nw.warmD hL.1 (va_Nw.of rfl h))
    · rename_i ty
      have h2 : lw_tbl.all (fun w => match w with | .arrayOver ty => decide (ty = .array .int) || (match ty with | .object _ => true | _ => false) | _ => true) = true := by decide +kernel
      have h3 := List.all_eq_true.mp h2 _ hin
      dsimp only at h3
      rw [Bool.or_eq_true] at h3
      rcases h3 with h3 | h3
      · have h3 : ty = .array .int := of_decide_eq_true h3
        subst h3
        exact gx_aom hL.1.alike h
      · cases ty with
        | object C => exact va_AO.use (va_AO.moved hL.1.alike (va_AO.of h))
        | _ => cases h3
    · exact gx_lsm hL h
    · cases hm
end
section
/-! the machine's run -/
def gx_rr : Option FieldType → Bool
  | some (.object _) | some (.array _) => true
  | _ => false
def gx_e (j : Nat) (ins : Instr) (st : List Value) : Option (Option Value) := match ins with
  | .return_ => match st with
    | [] => if gx_rt j = none then some none else none
    | _ => none
  | .ireturn => match st with
    | [.int v] => match gx_rt j with
      | some ty => if narrow ty (.int v) = .int v then some (some (.int v)) else none
      | none => none
    | _ => none
  | .lreturn => match st with
    | [.long v] => if gx_rt j = some .long then some (some (.long v)) else none
    | _ => none
  | .areturn => match st with
    | [v] => if v.isRef = true ∧ gx_rr (gx_rt j) = true then some (some v) else none
    | _ => none
  | _ => none
def gx_xt (o idx : Nat) : Option Nat := (gx_XT.find? (fun q => q.1 == o && q.2.1 == idx)).map (fun q => q.2.2)
def gx_cov (q : Nat × Nat × Nat × Nat) (pc : Nat) : Bool := decide (q.1 ≤ pc) && decide (pc < q.2.1)
/-- an exception x comes out of a call at pc: none covers pc, or where the first handler that does lies -/
def gx_cat (j pc : Nat) (h : gx_H) (x : Nat) : Option (Option Nat) := match (gx_hd j).find? (fun q => gx_cov q pc) with
  | none => some none
  | some q => (gx_xt (gx_mo j) q.2.2.2).bind fun t => (gx_ob h x t).map fun _ => some q.2.2.1
/-- throw new X("..") -/
def gx_th (j pc : Nat) (ins : Instr) (st : List Value) : Option Nat := match ins with
  | .new idx => match gx_I j (pc + 3), gx_I j (pc + 4), gx_I j (pc + 6), gx_I j (pc + 9) with
    | some .dup, some (.ldc si), some (.invokespecial ic), some .athrow => if gx_hd j = [] ∧ st = [] then (gx_TH3.find? (fun q => q.1 == gx_mo j && (q.2.1 == idx && (q.2.2.1 == si && q.2.2.2.1 == ic)))).map (fun q => q.2.2.2.2) else none
    | _, _, _, _ => none
  | _ => none
def gx_run (xs : Option (List Int32)) : Nat → Nat → Nat → Nat → gx_L → List Value → gx_H → Nat → Nat → Option (Outcome × gx_H × Nat × Nat)
  | 0, _, _, _, _, _, _, _, _ => none
  | n + 1, d, j, pc, L, st, h, k, u => match gx_I j pc with
    | none => none
    | some ins => match gx_p (gx_mo j) (gx_nl j) ins pc L st with
      | some q => gx_run xs n d j q.1 q.2.1 q.2.2 h k u
      | none => match gx_q xs (gx_mo j) h ins pc L st with
        | some q => gx_run xs n d j q.1 q.2.1 q.2.2 h k u
        | none => match gx_w (gx_mo j) (gx_in j) h ins pc st with
          | some q => gx_run xs n d j q.1 L q.2.1 q.2.2 k u
          | none => match gx_n (gx_mo j) h ins pc st with
            | some q => gx_run xs n d j q.1 L q.2.1 q.2.2.1 (k + q.2.2.2.1) (u + q.2.2.2.2)
            | none => match gx_mu (gx_mo j) h ins pc st with
              | some q => gx_run xs n d j q.1 L q.2.1 q.2.2.1 (k + q.2.2.2.1) (u + q.2.2.2.2)
              | none => match gx_e j ins st with
                | some v => some (.returned v, h, k, u)
                | none => match gx_bi (gx_mo j) h ins pc st with
                  | some q => gx_run xs n d j q.1 L q.2.1 q.2.2 k u
                  | none => match gx_th j pc ins st with
                    | some t => some (.threw h.length, h ++ [(t, [])], k + 1, u + 6)
                    | none => match d, gx_c (gx_mo j) h ins st with
                      | d' + 1, some q => if (q.2.2.map fun v => v.category).sum ≤ 8 ∧ (lg_sl q.2.1).length ≤ gx_nl q.1 then (match gx_run xs n d' q.1 0 (lv_args 0 q.2.1) [] h 0 0 with
                        | some (.returned v, h', kc, uc) => gx_run xs n d j (pc + 3) L (v.toList ++ q.2.2) h' (k + kc) (u + uc)
                        | some (.threw x, h', kc, uc) => (match gx_cat j pc h' x with
                          | some none => some (.threw x, h', k + kc, u + uc)
                          | some (some pc') => gx_run xs n d j pc' L [.ref x] h' (k + kc) (u + uc)
                          | none => none)
                        | none => none) else none
                      | _, _ => none
/-! the small machine's run is the machine's own -/
def gx_oc (ba b : Nat) : Outcome → Outcome
  | .returned v => .returned (v.map (gx_v ba b))
  | .threw k => .threw (ba + k)
def gx_Q (D : va_G) (aC : Nat → ClassId) (ba b : Nat) (s : State) (below : List Frame) (o : Outcome) (h : gx_H) (k u : Nat) (t : State) : Prop :=
  t.status = .running ∧ Ended t below (gx_oc ba b o) ∧ s.WarmedH t.vm ∧ (∃ L : List Loc, s.sameButNew ({ t with vm := s.vm } : State) L k u ∧ ∀ q ∈ L, ba ≤ q.base) ∧ gx_rel D aC ba b h t.heap ∧ ∀ q, q < ba → t.heap[q]? = s.heap[q]?
def gx_rm (d : Nat) (R : Room) : Prop := d + 8 ≤ R.frames ∧ d * 100 + 300 ≤ R.locals
theorem gx_under {tb : Tables} {e : Env} {f : Frame} {below : List Frame} {s t : State} (h : Steps tb e (f :: below) s t) : Steps tb e below s t := by
  obtain ⟨n, hn, hw⟩ := h
  refine ⟨n, hn, fun k hk => ?_⟩
  obtain ⟨above, h1, h2, h3⟩ := hw k hk
  refine ⟨above ++ [f], by rw [h1]; simp, by simp, fun a q => ?_⟩
  cases above with
  | nil => exact h2 rfl
  | cons x r =>
    have := congrArg List.length q
    simp at this
theorem gx_mono (xs : Option (List Int32)) : ∀ (n d j pc : Nat) (L : gx_L) (st : List Value) (h : gx_H) (k u : Nat) (o : Outcome) (h' : gx_H) (k' u' : Nat), gx_run xs n d j pc L st h k u = some (o, h', k', u') → k ≤ k' ∧ u ≤ u' := by
  intro n
  induction n with
  | zero => intro d j pc L st h k u o h' k' u' e; cases e
  | succ n ih =>
    intro d j pc L st h k u o h' k' u' e
    rw [gx_run] at e
    repeat' split at e
    all_goals first
      | cases e; exact ⟨by omega, by omega⟩
      | exact ih _ _ _ _ _ _ _ _ _ _ _ _ e
      | (have := ih _ _ _ _ _ _ _ _ _ _ _ _ e; omega)
      | cases e
theorem W.mono {p : Program} {l : Launch} {e : Env} {R : Room} {s : State} {m : MethodId} {args : Array Value} {below : List Frame} {meth : Method} {c : Code} {H : Heap} {locs : List Loc} {cells slots : Nat} {Q Q' : State → Prop} {g : JFrame} (h : W p l e R s m args below meth c H locs cells slots Q g) (hq : ∀ t, Q t → Q' t) : W p l e R s m args below meth c H locs cells slots Q' g := fun T hT X => by
  obtain ⟨t, a, b⟩ := h T hT X
  exact ⟨t, a, hq t b⟩
/-- what is known of the law's beginning -/
def gx_s0 (s₀ : State) (D : va_G) (aC : Nat → ClassId) (ba b : Nat) (xs : Option (List Int32)) : Prop :=
  ba = s₀.heap.size ∧ b < ba ∧ (∀ w ∈ lw_tbl, w.before #[Value.ref b] s₀ = true) ∧ ((Jvm.Cond.isRef (.static "java/lang/Throwable" "UNASSIGNED_STACK" "[Ljava/lang/StackTraceElement;")).before #[Value.ref b] s₀ = true ∧ (Jvm.Cond.isRef (.static "java/lang/Throwable" "SUPPRESSED_SENTINEL" "Ljava/util/List;")).before #[Value.ref b] s₀ = true) ∧
  gx_KN s₀ D ∧ gx_AK s₀ aC ∧ (∀ l, xs = some l → gx_X b l s₀ s₀.heap) ∧ ∀ z ∈ gx_ST, ∃ q, vk_R (gx_o z.1) z.2.1 z.2.2 q s₀
/-- what is known of an invocation of method j -/
def gx_cx (p : Program) (e : Env) (s₀ : State) (D : va_G) (aC : Nat → ClassId) (ba b : Nat) (xs : Option (List Int32)) (j : Nat) (s : State) (m : MethodId) (meth : Method) (c : Code) : Prop :=
  p.tables.exec = Jvm.exec ∧ e.platform.stackTraces = false ∧ c.code = gx_b j ∧ c.maxLocals = gx_nl j ∧ c.exceptionTable.toList.map (fun h => (h.startPc, h.endPc, h.handlerPc, h.catchType)) = gx_hd j ∧ meth.sig.returnType = gx_rt j ∧ meth.locks = false ∧ (gx_in j = true → meth.name = "<init>") ∧
  s.vm.findClass (gx_o (gx_mo j)) = some m.cls ∧ gx_s0 s₀ D aC ba b xs ∧ gx_le s₀ s ∧ ∃ h, gx_rel D aC ba b h s.heap
theorem gx_wat {s₀ s : State} {D : va_G} {aC : Nat → ClassId} {ba b : Nat} {xs : Option (List Int32)} (h0 : gx_s0 s₀ D aC ba b xs) (hL : gx_le s₀ s) {A : Array Value} : ∀ w ∈ gx_words, w.before A s = true := fun w hw => by
  obtain ⟨h1, h2⟩ := List.mem_filter.mp hw
  exact gx_move hL h2 h1 (h0.2.2.1 w h1)
theorem gx_KNm {s U : State} {D : va_G} (h : gx_KN s D) (hvm : s.vm.Alike U.vm) : gx_KN U D := fun ci q hq => u_Kn_moved hvm (h ci q hq)
theorem gx_AKm {s U : State} {aC : Nat → ClassId} (h : gx_AK s aC) (hvm : s.vm.Alike U.vm) : gx_AK U aC := fun t ht => by
  obtain ⟨k, comp, h1, h2, h3, h4⟩ := h t ht
  obtain ⟨k', hk', he⟩ := hvm.2.2 _ _ h1
  exact ⟨k', comp, hk', by rw [he]; exact h2, by rw [hvm.findClass]; exact h3, fun e => by rw [hvm.findClass]; exact h4 e⟩
theorem gx_Xm {s₀ s : State} {H : Heap} {D : va_G} {aC : Nat → ClassId} {ba b : Nat} {xs : Option (List Int32)} (h0 : gx_s0 s₀ D aC ba b xs) (hvm : s₀.vm.Alike s.vm) (hH : ∀ q, q < ba → H[q]? = s₀.heap[q]?) : ∀ l, xs = some l → gx_X b l s H := by
  intro l hl
  obtain ⟨scr, q1, q2, q3, q4, q5⟩ := h0.2.2.2.2.2.2.1 l hl
  exact ⟨scr, by rw [hH b h0.2.1]; exact q1, State.isArrayOf_alike hvm q2, q3, q4, q5⟩
end
section
theorem gx_isrA {z : Nat × Nat × Nat} (hz : z ∈ gx_XK) {w : Jvm.Cond} (hw : w ∈ Bundle.ownAtoms (gx_o z.1) z.2.1 (gx_xn z.2.2) gx_up) (hi : gx_isr w = true) : w = .isRef (.static "java/lang/Throwable" "UNASSIGNED_STACK" "[Ljava/lang/StackTraceElement;") ∨ w = .isRef (.static "java/lang/Throwable" "SUPPRESSED_SENTINEL" "Ljava/util/List;") := by
  have h : gx_XK.all (fun z => ((Bundle.ownAtoms (gx_o z.1) z.2.1 (gx_xn z.2.2) gx_up).filter gx_isr).all (fun w => decide (w = .isRef (.static "java/lang/Throwable" "UNASSIGNED_STACK" "[Ljava/lang/StackTraceElement;") ∨ w = .isRef (.static "java/lang/Throwable" "SUPPRESSED_SENTINEL" "Ljava/util/List;")))) = true := by decide +kernel
  have h1 := List.all_eq_true.mp h z hz
  have h2 := List.all_eq_true.mp h1 w (List.mem_filter.mpr ⟨hw, hi⟩)
  exact of_decide_eq_true h2
theorem gx_xrow {z : Nat × Nat × Nat} (hz : z ∈ gx_XK) : ∃ r, gx_cl[z.2.2]? = some r ∧ r.1 = gx_xn z.2.2 ∧ r.2.2 = 0 := by
  have h : gx_XK.all (fun z => match gx_cl[z.2.2]? with | some r => decide (r.1 = gx_xn z.2.2 ∧ r.2.2 = 0) | none => false) = true := by decide +kernel
  have h1 := List.all_eq_true.mp h z hz
  split at h1
  · rename_i r hr
    exact ⟨r, hr, of_decide_eq_true h1⟩
  · cases h1
/-- the four instructions behind 'new' of a throw -/
theorem gx_th_e {j pc t : Nat} {ins : Instr} {st : List Value} (h : gx_th j pc ins st = some t) : ∃ idx si ic, ins = .new idx ∧ gx_I j (pc + 3) = some .dup ∧ gx_I j (pc + 4) = some (.ldc si) ∧ gx_I j (pc + 6) = some (.invokespecial ic) ∧ gx_I j (pc + 9) = some .athrow ∧ gx_hd j = [] ∧ st = [] ∧ (gx_mo j, idx, si, ic, t) ∈ gx_TH3 := by
  unfold gx_th at h
  split at h
  · rename_i idx
    split at h
    · rename_i si ic g1 g2 g3 g4
      split at h
      · rename_i hc
        obtain ⟨⟨a, i2, s2, c2, t2⟩, h1, h2⟩ := Option.map_eq_some_iff.mp h
        have h3 := List.find?_some h1
        have h4 := List.mem_of_find?_eq_some h1
        simp only [Bool.and_eq_true, beq_iff_eq] at h3
        obtain ⟨rfl, rfl, rfl, rfl⟩ := h3
        cases h2
        exact ⟨i2, s2, c2, rfl, g1, g2, g3, g4, hc.1, hc.2, h4⟩
      · cases h
    · cases h
  · cases h
section GXTH
variable {p : Program} {l : Launch} {e : Env} {R : Room} {s : State} {m : MethodId} {args : Array Value} {below : List Frame} {meth : Method} {c : Code} {H : Heap} {locs : List Loc} {cells slots : Nat}
variable {ls : Array Slot} {s₀ : State} {D : va_G} {aC : Nat → ClassId} {ba b : Nat} {h0 : gx_H} {xs : Option (List Int32)} {j : Nat}
theorem gx_d1 {j pc n : Nat} {ins : Instr} (h : gx_I j pc = some ins) (hn : gx_lok ins n = true → gx_len ins = n) (hs : ∀ k, gx_lok ins k = true → k = gx_len ins) : decode (gx_b j) pc = .ok (ins, gx_len ins) := by
  obtain ⟨len, h1, h2⟩ := gx_dec h
  rw [h1, hs len h2]
set_option maxHeartbeats 4000000 in
theorem gx_thW (C0 : gx_cx p e s₀ D aC ba b xs j s m meth c) (hml : c.maxLocals = ls.size) (hr : gx_rel D aC ba b h0 H) (hH : ∀ q, q < ba → H[q]? = s₀.heap[q]?) (hlo : ∀ q ∈ locs, ba ≤ q.base) (hR : 8 ≤ R.frames ∧ 300 ≤ R.locals)
    {ins : Instr} {pc t : Nat} {st : List Value} (hi : gx_I j pc = some ins) (h : gx_th j pc ins st = some t) (hc : cells + 1 ≤ R.cells) (hsl : slots + 6 ≤ R.slots) :
    W p l e R s m args below meth c H locs cells slots (gx_Q D aC ba b s below (.threw h0.length) (h0 ++ [(t, [])]) (cells + 1) (slots + 6)) (F0 m pc ls (gx_t ba b st)) := by
  obtain ⟨idx, si, ic, rfl, g3, g4, g6, g9, hhd, rfl, hth⟩ := gx_th_e h
  obtain ⟨hx, htr, hb, hnl, hhand, hret, hlocks, hini, hown, hs0, hle, hrel0⟩ := C0
  obtain ⟨x1, x2, x3⟩ := gx_THok _ hth
  dsimp only at x1 x2 x3
  have hd0 : decode (gx_b j) pc = .ok (.new idx, 3) := by
    obtain ⟨len, h1, h2⟩ := gx_dec hi
    have e1 : len = 3 := by simpa [gx_lok, gx_len] using h2
    subst e1; exact h1
  have hd3 : decode (gx_b j) (pc + 3) = .ok (.dup, 1) := by
    obtain ⟨len, h1, h2⟩ := gx_dec g3
    have e1 : len = 1 := by simpa [gx_lok, gx_len] using h2
    subst e1; exact h1
  have hd4 : decode (gx_b j) (pc + 4) = .ok (.ldc si, 2) := by
    obtain ⟨len, h1, h2⟩ := gx_dec g4
    have e1 : len = 2 := by simpa [gx_lok, gx_len] using h2
    subst e1; exact h1
  have hd6 : decode (gx_b j) (pc + 6) = .ok (.invokespecial ic, 3) := by
    obtain ⟨len, h1, h2⟩ := gx_dec g6
    have e1 : len = 3 := by simpa [gx_lok, gx_len] using h2
    subst e1; exact h1
  have hd9 : decode (gx_b j) (pc + 9) = .ok (.athrow, 1) := by
    obtain ⟨len, h1, h2⟩ := gx_dec g9
    have e1 : len = 1 := by simpa [gx_lok, gx_len] using h2
    subst e1; exact h1
  have htab : c.exceptionTable.toList = [] := by
    rw [hhd] at hhand
    exact List.map_eq_nil_iff.mp hhand
  obtain ⟨sz, hsz⟩ := Option.isSome_iff_exists.mp x3
  have hsm := List.mem_of_find?_eq_some hsz
  have hse := List.find?_some hsz
  simp only [Bool.and_eq_true, beq_iff_eq] at hse
  obtain ⟨qm, hqm⟩ := hs0.2.2.2.2.2.2.2 sz hsm
  rw [hse.1, hse.2] at hqm
  have hfit := gx_fitA _ x2
  intro T hT X
  have hles : gx_le s₀ (T.setFrames (.invoking m args :: below)) := ⟨State.WarmedH.trans hle.1 X.warmed, fun q hq => by
    show T.heap[q]? = _
    rw [hT]
    exact hH q (by rw [hs0.1]; exact hq)⟩
  have X0 := gx_rebase X (R' := { frames := R.frames, cells := 1, slots := 6, locals := R.locals }) (Nat.le_refl _) (Nat.le_refl _) hc hsl
  generalize hs' : T.setFrames (.invoking m args :: below) = s' at X0 hles
  have hheap' : s'.heap = H := by rw [← hs', ← hT]; rfl
  have hvm' : s'.vm = T.vm := by rw [← hs']; rfl
  have hws : ∀ w ∈ gx_words, w.before args s' = true := gx_wat hs0 hles
  have hown' : s'.vm.findClass (gx_o (gx_mo j)) = some m.cls := by
    rw [hvm', X.warmed.alike.findClass]; exact hown
  have hKN := gx_KNm hs0.2.2.2.2.1 hles.1.alike
  have hat : ∀ w ∈ Bundle.ownAtoms (gx_o (gx_mo j)) ic (gx_xn t) gx_up, w.before args s' = true := by
    intro w hw
    have h1 := List.all_eq_true.mp (gx_owA _ x2) w hw
    rw [Bool.or_eq_true] at h1
    rcases h1 with h1 | h1
    · have h2 : w = .isRef (.static "java/lang/Throwable" "UNASSIGNED_STACK" "[Ljava/lang/StackTraceElement;") ∨ w = .isRef (.static "java/lang/Throwable" "SUPPRESSED_SENTINEL" "Ljava/util/List;") := gx_isrA x2 hw h1
      rcases h2 with rfl | rfl
      · exact gx_irm hles hs0.2.2.2.1.1
      · exact gx_irm hles hs0.2.2.2.1.2
    · rw [Bool.and_eq_true] at h1
      exact hws w (List.mem_filter.mpr ⟨of_decide_eq_true h1.1, h1.2⟩)
  have hxw : ∀ w ∈ gx_xw (gx_mo j, idx, t), w.before args s' = true := fun w hw => hws w (gx_pick gx_cXC.1 gx_cXC.2 (List.mem_flatMap.mpr ⟨_, x1, hw⟩))
  have K : W p l e { frames := R.frames, cells := 1, slots := 6, locals := R.locals } s' m args below meth c s'.heap [] 0 0 (fun U => U.status = .running ∧ Ended U below (.threw H.size) ∧ s'.WarmedH U.vm ∧ s'.sameButNew ({ U with vm := s'.vm } : State) [] 1 6 ∧ ∃ ce, U.heap[H.size]? = some ce ∧ Bundle.OwnCell args s' (gx_xn t) H.size (.ref qm) ce) (F0 m pc ls []) := by
    refine W.newc hx hb hown' (hxw _ List.mem_cons_self) (hxw _ (List.mem_cons_of_mem _ List.mem_cons_self)) (hxw _ (List.mem_cons_of_mem _ (List.mem_cons_of_mem _ List.mem_cons_self))) rfl hd0 (Nat.le_refl _) (Nat.le_refl _) fun cC kC f1 f2 f3 f4 => ?_
    rw [hheap']
    refine lv_dup hx hb hd3 rfl ?_
    refine va_ldcS hx hb hown' (vk_R.warm hles.1 hqm) hd4 ?_
    intro T2 hT2 X2
    obtain ⟨U, u1, u2, u3, u4, u5, ce, u6, u7⟩ := X2.ctorThrowS hx htr hown' hfit.1 gx_fitU hat (fun x hx => by cases hx) f1 f2 (by rw [hT2]; simp [freshCell]) (by rw [hheap']; exact Nat.le_refl _) (msg := .ref qm) rfl (g := F0 m (pc + 6) ls [.ref qm, .ref H.size, .ref H.size]) rfl hml.symm rfl rfl (rest := []) rfl (by rw [hb]; exact hd6) (by rw [hb]; exact hd9) (fun x hx => by rw [htab] at hx; cases hx)
      (by show 2 + 3 < R.frames; omega) (by show 2 * 0 + (1 + 0) + (13 * (2 + 1) + 42) ≤ R.locals; omega) hlocks
    exact ⟨U, u1, u2, u3, u4, u5, ce, u6, u7⟩
  obtain ⟨U, hU, k1, k2, k3, k4, ce, k5, k6⟩ := K T (by rw [hheap']; exact hT) X0
  have hsize : U.heap.size = H.size + 1 := by
    have a1 : U.heap.size ≤ s'.heap.size + 1 := k4.2.2.1
    rw [hheap'] at a1
    have a2 : H.size < U.heap.size := (Array.getElem?_eq_some_iff.mp k5).1
    omega
  have hold : ∀ q, q < H.size → U.heap[q]? = H[q]? := fun q hq => by
    have e1 : s'.heap[q]? = some H[q] := by rw [hheap']; exact Array.getElem?_eq_getElem hq
    have := k4.old_cell e1
    rw [show U.heap[q]? = some H[q] from this, Array.getElem?_eq_getElem hq]
  have hba : ba ≤ H.size := by rw [hr.1]; omega
  obtain ⟨r1, hr1, hr1n, hr1z⟩ := gx_xrow x2
  refine ⟨U, hU, k1, ?_, State.WarmedH.trans X.warmed (show T.WarmedH U.vm from ?_), ⟨locs, ?_, hlo⟩, ?_, ?_⟩
  · rw [show gx_oc ba b (.threw h0.length) = .threw H.size from by rw [gx_oc, hr.1]]
    exact k2
  · rw [← hs'] at k3
    exact k3
  · have hB : T.sameButNew ({ U with vm := T.vm } : State) [] 1 6 := by
      rw [← hs'] at k4
      obtain ⟨e1, q2, q3, q4, q5, q6⟩ := k4
      refine ⟨?_, q2, q3, q4, q5, q6⟩
      have e2 : ({ U with vm := T.vm } : State) = _ := e1
      rw [State.setFrames_setFrames] at e2
      exact e2
    have := X.same.trans (hB.setVm s.vm)
    rw [List.append_nil] at this
    exact this
  · refine hr.push hsize hold ?_
    unfold gx_at
    rw [if_pos hfit.2]
    refine ⟨r1, hr1, hr1z, ce, k5, ?_, k6.vm, fun k hk => by rw [hr1z] at hk; cases hk⟩
    have a1 := (hKN t r1 hr1).2.1
    have a2 := k6.cls
    rw [hr1n] at a1
    exact Option.some.inj (a2.symm.trans a1)
  · intro q hq
    rw [hold q (by omega), hH q hq, hle.2 q (by rw [← hs0.1]; exact hq)]
end GXTH
end
section
section GXK
variable {p : Program} {l : Launch} {e : Env} {R : Room} {s : State} {m : MethodId} {args : Array Value} {below : List Frame} {meth : Method} {c : Code} {T : State} {locs : List Loc} {cells slots : Nat}
/-- a catch type, resolved now or before: the search as from the tables that the resolution leaves -/
theorem gx_goC {Q : Handler → Pre} {E : CtlPost} {d : Bool} {acts : List Action} {S : State} {f : JFrame} {a : Addr} {x : ExceptionTableEntry} {t : List ExceptionTableEntry} {cc : ClassId} {vm' : Vm} (hx : covers x f.pc = true) (h0 : x.catchType ≠ 0)
    (hg : (Jvm.resolveClass f.method.cls x.catchType).Gives e.toSetting S.vm (.ok cc) vm') (hr : vm'.classReady f.method.cls x.catchType cc) (hsz : vm'.classes.size ≤ S.vm.classes.size) :
    wp (findHandler.go f a (x :: t)) Q E e d acts S ↔ wp (findHandler.go f a (x :: t)) Q E e d acts (S.setVm vm') := by
  obtain ⟨ha, ht⟩ := hg.op (op := VmOp.resolveClass f.method.cls x.catchType) rfl
  simp only [covers] at hx
  obtain ⟨k, hkd, hres⟩ := hr
  simp [findHandler.go, hx, h0, ha, ht, hsz, resolveClass_memo e hkd hres, VmOp.dirties, VmOp.acts]
  exact Iff.rfl
set_option maxHeartbeats 4000000 in
/-- an exception of class C at a is caught by the first entry that covers the pc, which names C -/
theorem gx_caught (X : Stand p l e R s m args below meth c T locs cells slots) {own C : String} (hown : s.vm.findClass own = some m.cls) {a : Addr} {ce : Cell} (hce : T.heap[a]? = some ce) (hvm : ce.vm = .none) (hcls : s.vm.findClass C = some ce.cls) (hkc : ∃ k, s.vm.classes[ce.cls]? = some k) (hcast : (Cond.castable C C).before args s = true)
    {g : JFrame} (hg : g.method = m) {pre : List ExceptionTableEntry} {x : ExceptionTableEntry} {rest : List ExceptionTableEntry} (hsplit : c.exceptionTable.toList = pre ++ x :: rest) (hskip : ∀ y ∈ pre, covers y g.pc = false) (hx : covers x g.pc = true) (h0 : x.catchType ≠ 0)
    (hlink : (Cond.classLink own x.catchType C).before args s = true) :
    ∃ vm₁, Stand p l e R s m args below meth c (T.setVm vm₁) locs cells slots ∧ ∀ target, Steps p.tables e below ((T.setVm vm₁).setTop { g with pc := x.handlerPc, stack := [.ref a] }) target → Steps p.tables e below ((T.setTop g).pushFrame (.throwing a)) target := by
  subst hg
  have hpl : e.platform.magicAccessors = ({} : Platform).magicAccessors := by rw [X.admits.platform]
  obtain ⟨cc, hfcc, hcl⟩ := Cond.classLink_spec hown hlink e.platform hpl
  obtain ⟨hg₁, hwarm₁, hready₁⟩ := State.classEntry (e := e) X.warmed hcl
  generalize T.vm.noted g.method.cls x.catchType (.cls cc) = vm₁ at hg₁ hwarm₁ hready₁
  cases hcls.symm.trans hfcc
  have X₁ := X.noted hwarm₁
  obtain ⟨c1, c2, q1, q2, q3⟩ := Cond.castable_spec hcast
  cases hcls.symm.trans q1
  cases hcls.symm.trans q2
  refine ⟨vm₁, X₁, fun target hrest => ?_⟩
  have hh : At T g.method c below := X.here
  obtain ⟨hgo, hw⟩ := hh.throwing a
  refine Steps.head hgo hw ?_
  rw [stepThread_throwing (frames_entered hh.top _)]
  have hmeth : T.vm.method? g.method = some meth := X.method'
  have hmeth₁ : (T.setVm vm₁).vm.method? g.method = some meth := X₁.method'
  obtain ⟨k1, hk1⟩ := hkc
  obtain ⟨k1', hk1', -⟩ := (X₁.warmed).alike.2.2 _ _ hk1
  have hfind : ∀ (Q : Handler → Pre) (E : CtlPost) (d : Bool) (acts : List Action), wp (findHandler g a) Q E e d acts ((T.setTop g).pushFrame (.throwing a)) ↔ Q (.found x.handlerPc) d acts (((T.setTop g).pushFrame (.throwing a)).setVm vm₁) := by
    intro Q E d acts
    have v1 : ((T.setTop g).pushFrame (.throwing a)).vm = T.vm := Stand.throwing_vm T g a
    have v2 : ((T.setTop g).pushFrame (.throwing a)).heap = T.heap := Stand.throwing_heap T g a
    have hskipW : ∀ (l : List ExceptionTableEntry) (r : List ExceptionTableEntry) (S : State), (∀ y ∈ l, covers y g.pc = false) → (wp (findHandler.go g a (l ++ r)) Q E e d acts S ↔ wp (findHandler.go g a r) Q E e d acts S) := by
      intro l
      induction l with
      | nil => intro r S _; exact Iff.rfl
      | cons y l ih =>
        intro r S hl
        rw [List.cons_append, W.findHandler_go_skip (hl y (List.mem_cons_self ..))]
        exact ih r S (fun z hz => hl z (List.mem_cons_of_mem _ hz))
    rw [W.findHandler_eq (by rw [v1]; exact hmeth) X.code, hsplit, hskipW pre (x :: rest) _ hskip, gx_goC hx h0 (by rw [v1]; exact hg₁) hready₁ (by rw [v1]; exact Vm.Alike.size_le (alike_of X.warmed hwarm₁)),
      W.findHandler_go_class (s := ((T.setTop g).pushFrame (.throwing a)).setVm vm₁) (c := ce.cls) (cell := ce) hx h0 hready₁ (by show ((T.setTop g).pushFrame (.throwing a)).heap[a]? = _; rw [v2]; exact hce) (fun z hz => by rw [hvm] at hz; cases hz) ⟨k1', hk1'⟩ ⟨k1', hk1'⟩, if_pos (show (((T.setTop g).pushFrame (.throwing a)).setVm vm₁).vm.assignable ce.cls ce.cls = true from (X₁.warmed.alike.assignable _ _).trans q3)]
  have hstep : (stepThrowing e ((T.setTop g).pushFrame (.throwing a)) a (.java g :: T.frames.tail)).1 = (((T.setTop g).pushFrame (.throwing a)).setVm vm₁).setFrames (.java { g with pc := x.handlerPc, stack := [.ref a] } :: T.frames.tail) := by
    simp only [stepThrowing, searchFrame, vmDo]
    generalize hr : Sem.go _ e false [] ((T.setTop g).pushFrame (.throwing a)) = res
    obtain ⟨as, rfl, ha⟩ := Sem.eq_ok_of hr (a := Handler.found x.handlerPc) (s' := ((T.setTop g).pushFrame (.throwing a)).setVm vm₁) (acts' := []) (by simp [hfind _ _ _ _])
    rfl
  rw [hstep]
  obtain ⟨g₀, hg0⟩ := Option.isSome_iff_exists.mp hh.top
  obtain ⟨r, hr⟩ := State.topJava?_eq_some.mp hg0
  have hr' : (T.setVm vm₁).frames = .java g₀ :: r := hr
  rw [State.setTop_of_frames _ hr'] at hrest
  have e1 : (((T.setTop g).pushFrame (.throwing a)).setVm vm₁).setFrames (.java { g with pc := x.handlerPc, stack := [.ref a] } :: T.frames.tail) = ((((T.setTop g).pushFrame (.throwing a)).setFrames (.java { g with pc := x.handlerPc, stack := [.ref a] } :: T.frames.tail))).setVm vm₁ := rfl
  rw [e1, State.pushFrame, State.setFrames_setFrames, State.setTop_of_frames _ hr, State.setFrames_setFrames, hr]
  exact hrest
end GXK
end
section
def gx_xtw (z : Nat × Nat × Nat) : List Jvm.Cond := [.classLink (gx_o z.1) z.2.1 (gx_xn z.2.2), .castable (gx_xn z.2.2) (gx_xn z.2.2)]
theorem gx_cXT : gx_XT.flatMap gx_xtw = [381, 389, 382, 470, 387, 389, 468, 470, 619, 630, 628, 630, 678, 795, 793, 795].filterMap (fun i => lw_tbl[i]?) ∧ (gx_XT.flatMap gx_xtw).all gx_mv = true := by decide +kernel
theorem gx_XTok : ∀ z ∈ gx_XT, z.2.1 ≠ 0 ∧ z.2.2 < 100 := by decide +kernel
end
section
theorem gx_args {ba b : Nat} : ∀ (A : List Value) (i : Nat), lv_args i (gx_t ba b A) = gx_l ba b (lv_args i A)
  | [], _ => rfl
  | v :: A, i => by
    show (i, gx_v ba b v) :: lv_args (if (gx_v ba b v).category = 2 then i + 2 else i + 1) (gx_t ba b A) = (i, gx_v ba b v) :: gx_l ba b (lv_args (if v.category = 2 then i + 2 else i + 1) A)
    rw [gx_v_cat, gx_args A]
theorem gx_sl {ba b : Nat} : ∀ (A : List Value), (lg_sl (gx_t ba b A)).length = (lg_sl A).length
  | [] => rfl
  | v :: A => by
    show (lg_sl (gx_v ba b v :: gx_t ba b A)).length = _
    unfold lg_sl
    rw [List.flatMap_cons, List.flatMap_cons, List.length_append, List.length_append, gx_v_cat]
    have := gx_sl (ba := ba) (b := b) A
    unfold lg_sl at this
    rw [this]
    congr 1
    split <;> rfl
theorem gx_c_kd {o j : Nat} {h : gx_H} {ins : Instr} {st A rest : List Value} (hc : gx_c o h ins st = some (j, A, rest)) : gx_kd j ≠ 9 := by
  unfold gx_c at hc
  split at hc
  · obtain ⟨⟨j', n⟩, h1, h2⟩ := Option.bind_eq_some_iff.mp hc
    dsimp only at h2
    split at h2
    · rename_i hk; cases h2; rw [hk.1]; decide
    · cases h2
  · obtain ⟨⟨j', n⟩, h1, h2⟩ := Option.bind_eq_some_iff.mp hc
    dsimp only at h2
    split at h2
    · rename_i hk
      obtain ⟨z, h3, h4⟩ := Option.bind_eq_some_iff.mp h2
      obtain ⟨fs, h5, h6⟩ := Option.map_eq_some_iff.mp h4
      cases h6; rw [hk.1]; decide
    · cases h2
  · obtain ⟨⟨j', n⟩, h1, h2⟩ := Option.bind_eq_some_iff.mp hc
    dsimp only at h2
    split at h2
    · rename_i hk
      obtain ⟨z, h3, h4⟩ := Option.map_eq_some_iff.mp h2
      cases h4; rw [hk.1]; decide
    · cases h2
  · cases hc
section GXR
variable {p : Program} {l : Launch} {e : Env} {R : Room} {s : State} {m : MethodId} {args : Array Value} {below : List Frame} {meth : Method} {c : Code} {H : Heap} {locs : List Loc} {cells slots : Nat}
variable {ls : Array Slot} {s₀ : State} {D : va_G} {aC : Nat → ClassId} {ba b : Nat} {h0 : gx_H} {xs : Option (List Int32)} {j : Nat}
theorem gx_endQ {v : Option Value} (hr : gx_rel D aC ba b h0 H) (hH : ∀ q, q < ba → H[q]? = s.heap[q]?) (t : State) (h : MQ below (fun _ _ o t => o = .returned (v.map (gx_v ba b)) ∧ t.heap = H) args s cells slots (fun q => ba ≤ q) t) : gx_Q D aC ba b s below (.returned v) h0 cells slots t := by
  obtain ⟨o, h1, h2, ⟨rfl, h4⟩, L, ⟨-, h5, h6⟩, h7⟩ := h
  exact ⟨h1, h2, h5, ⟨L, h6, h7⟩, by rw [h4]; exact hr, fun q hq => by rw [h4]; exact hH q hq⟩
set_option maxHeartbeats 4000000 in
theorem gx_eW (C0 : gx_cx p e s₀ D aC ba b xs j s m meth c) (hr : gx_rel D aC ba b h0 H) (hH : ∀ q, q < ba → H[q]? = s.heap[q]?) (hlo : ∀ q ∈ locs, ba ≤ q.base)
    {ins : Instr} {pc : Nat} {st : List Value} {v : Option Value} (hi : gx_I j pc = some ins) (h : gx_e j ins st = some v) :
    W p l e R s m args below meth c H locs cells slots (gx_Q D aC ba b s below (.returned v) h0 cells slots) (F0 m pc ls (gx_t ba b st)) := by
  obtain ⟨hx, htr, hb, hnl, hhand, hret, hlocks, hini, hown, hs0, hle, hrel0⟩ := C0
  obtain ⟨len, hd, hlen⟩ := gx_dec hi
  cases ins with
  | return_ =>
    have e1 : len = 1 := by simpa [gx_lok, gx_len] using hlen
    subst e1
    simp only [gx_e] at h
    split at h
    · split at h
      · rename_i hn
        cases h
        refine W.mono ?_ (gx_endQ (args := args) hr hH)
        exact W.vret hx hb (hret.trans hn) (fun t ht _ => ⟨rfl, ht⟩) hlo hd hlocks
      · cases h
    · cases h
  | ireturn =>
    have e1 : len = 1 := by simpa [gx_lok, gx_len] using hlen
    subst e1
    simp only [gx_e] at h
    split at h
    · split at h
      · rename_i ty hty
        split at h
        · rename_i hn
          cases h
          refine W.mono ?_ (gx_endQ (args := args) hr hH)
          exact W.zret hx hb (hret.trans hty) hn (fun t ht _ => ⟨rfl, ht⟩) hlo hd hlocks
        · cases h
      · cases h
    · cases h
  | lreturn =>
    have e1 : len = 1 := by simpa [gx_lok, gx_len] using hlen
    subst e1
    simp only [gx_e] at h
    split at h
    · split at h
      · rename_i hn
        cases h
        refine W.mono ?_ (gx_endQ (args := args) hr hH)
        exact W.lret hx hb (hret.trans hn) (fun t ht _ => ⟨rfl, ht⟩) hlo hd hlocks
      · cases h
    · cases h
  | areturn =>
    have e1 : len = 1 := by simpa [gx_lok, gx_len] using hlen
    subst e1
    simp only [gx_e] at h
    split at h
    · rename_i v0
      split at h
      · rename_i hn
        cases h
        refine W.mono ?_ (gx_endQ (args := args) hr hH)
        have hv : gx_v ba b v0 = .null ∨ ∃ a, gx_v ba b v0 = .ref a := by
          have := hn.1
          cases v0 <;> simp_all [Value.isRef, gx_v]
        cases hrt : gx_rt j with
        | none => rw [hrt] at hn; cases hn.2
        | some rt =>
          have hrr : (∃ n, rt = .object n) ∨ ∃ t, rt = .array t := by
            have h2 := hn.2
            rw [hrt] at h2
            cases rt <;> simp_all [gx_rr]
          exact W.aret hx hb (hret.trans hrt) hrr hv (fun t ht _ => ⟨rfl, ht⟩) hlo hd hlocks
      · cases h
    · cases h
  | _ => cases h
end GXR
end
section
/-- what the run of n steps gives, said of the machine -/
def gx_IH (xs : Option (List Int32)) (n : Nat) : Prop := ∀ (d j pc : Nat) (L : gx_L) (st : List Value) (h : gx_H) (k u : Nat) (o : Outcome) (h' : gx_H) (k' u' : Nat), gx_run xs n d j pc L st h k u = some (o, h', k', u') →
    ∀ {p : Program} {l : Launch} {e : Env} {R : Room} {s : State} {m : MethodId} {args : Array Value} {below : List Frame} {meth : Method} {c : Code} {H : Heap} {locs : List Loc} {ls : Array Slot} {s₀ : State} {D : va_G} {aC : Nat → ClassId} {ba b : Nat},
      gx_cx p e s₀ D aC ba b xs j s m meth c → gx_rel D aC ba b h H → (∀ q ∈ locs, ba ≤ q.base) → (∀ q, q < ba → H[q]? = s₀.heap[q]?) → lv_has ls (gx_nl j) (gx_l ba b L) → gx_rm d R → k' ≤ R.cells → u' ≤ R.slots →
      W p l e R s m args below meth c H locs k u (gx_Q D aC ba b s below o h' k' u') (F0 m pc ls (gx_t ba b st))
theorem gx_catN {j pc : Nat} {h : gx_H} {x : Nat} (hc : gx_cat j pc h x = some none) : (gx_hd j).find? (fun q => gx_cov q pc) = none := by
  unfold gx_cat at hc
  split at hc
  · assumption
  · obtain ⟨t, -, h2⟩ := Option.bind_eq_some_iff.mp hc
    obtain ⟨_, -, h3⟩ := Option.map_eq_some_iff.mp h2
    cases h3
theorem gx_catS {j pc pc' : Nat} {h : gx_H} {x : Nat} (hc : gx_cat j pc h x = some (some pc')) : ∃ q t fs, (gx_hd j).find? (fun q => gx_cov q pc) = some q ∧ q.2.2.1 = pc' ∧ gx_xt (gx_mo j) q.2.2.2 = some t ∧ h[x]? = some (t, fs) := by
  unfold gx_cat at hc
  split at hc
  · cases hc
  · rename_i q hq
    obtain ⟨t, h1, h2⟩ := Option.bind_eq_some_iff.mp hc
    obtain ⟨fs, h3, h4⟩ := Option.map_eq_some_iff.mp h2
    cases h4
    exact ⟨q, t, fs, hq, rfl, h1, gx_ob_e h3⟩
/-- the first of the handlers that cover the pc, in the class file's own table -/
theorem gx_split {l : List ExceptionTableEntry} {pc : Nat} {q : Nat × Nat × Nat × Nat} (h : (l.map (fun h => (h.startPc, h.endPc, h.handlerPc, h.catchType))).find? (fun q => gx_cov q pc) = some q) : ∃ pre x rest, l = pre ++ x :: rest ∧ (∀ y ∈ pre, covers y pc = false) ∧ covers x pc = true ∧ x.handlerPc = q.2.2.1 ∧ x.catchType = q.2.2.2 := by
  induction l with
  | nil => cases h
  | cons y l ih =>
    rw [List.map_cons, List.find?_cons] at h
    split at h
    · rename_i hy
      cases h
      exact ⟨[], y, l, rfl, fun z hz => (by cases hz), hy, rfl, rfl⟩
    · rename_i hy
      obtain ⟨pre, x, rest, e1, e2, e3, e4, e5⟩ := ih h
      refine ⟨y :: pre, x, rest, by rw [e1]; rfl, fun z hz => ?_, e3, e4, e5⟩
      rcases List.mem_cons.mp hz with rfl | hz
      · exact hy
      · exact e2 z hz
theorem gx_outside {l : List ExceptionTableEntry} {pc : Nat} (h : (l.map (fun h => (h.startPc, h.endPc, h.handlerPc, h.catchType))).find? (fun q => gx_cov q pc) = none) : ∀ y ∈ l, covers y pc = false := by
  intro y hy
  have h1 := List.find?_eq_none.mp h _ (List.mem_map.mpr ⟨y, hy, rfl⟩)
  exact Bool.not_eq_true _ ▸ h1
set_option maxHeartbeats 8000000 in
theorem gx_callW {xs : Option (List Int32)} {n : Nat} (ih : gx_IH xs n) {p : Program} {l : Launch} {e : Env} {R : Room} {s : State} {m : MethodId} {args : Array Value} {below : List Frame} {meth : Method} {c : Code} {H : Heap} {locs : List Loc} {ls : Array Slot} {s₀ : State} {D : va_G} {aC : Nat → ClassId} {ba b : Nat}
    {d' j pc : Nat} {L : gx_L} {st : List Value} {h : gx_H} {k u : Nat} {o : Outcome} {h' : gx_H} {k' u' : Nat} (C0 : gx_cx p e s₀ D aC ba b xs j s m meth c) (hr : gx_rel D aC ba b h H) (hlo : ∀ q ∈ locs, ba ≤ q.base) (hH : ∀ q, q < ba → H[q]? = s₀.heap[q]?) (hl : lv_has ls (gx_nl j) (gx_l ba b L)) (hrm : gx_rm (d' + 1) R) (hk : k' ≤ R.cells) (hu : u' ≤ R.slots) (hmo : k ≤ k' ∧ u ≤ u')
    {ins : Instr} (hi : gx_I j pc = some ins) {j' : Nat} {A rest : List Value} (hq : gx_c (gx_mo j) h ins st = some (j', A, rest)) (hgd : (rest.map fun v => v.category).sum ≤ 8 ∧ (lg_sl A).length ≤ gx_nl j')
    (er : (match gx_run xs n d' j' 0 (lv_args 0 A) [] h 0 0 with
      | some (.returned v, h', kc, uc) => gx_run xs n (d' + 1) j (pc + 3) L (v.toList ++ rest) h' (k + kc) (u + uc)
      | some (.threw x, h', kc, uc) => (match gx_cat j pc h' x with
        | some none => some (.threw x, h', k + kc, u + uc)
        | some (some pc') => gx_run xs n (d' + 1) j pc' L [.ref x] h' (k + kc) (u + uc)
        | none => none)
      | none => none) = some (o, h', k', u')) :
    W p l e R s m args below meth c H locs k u (gx_Q D aC ba b s below o h' k' u') (F0 m pc ls (gx_t ba b st)) := by
  have C0' := C0
  obtain ⟨hx, htr, hb, hnl, hhand, hret, hlocks, hini, hown, hs0, hle, hrel0⟩ := C0
  have hw := gx_wat (A := args) hs0 hle
  have hKN := gx_KNm hs0.2.2.2.2.1 hle.1.alike
  have hml : c.maxLocals = ls.size := hnl.trans hl.1.symm
  intro T hT X
  obtain ⟨vm₁, mk, hnm, hj', X₁, hdec, hstep⟩ := gx_into (ls := ls) X hx hb hown hw hKN (by rw [hT]; exact hr) (gx_dec hi) hq
  obtain ⟨mk', mt, ct, q1, q2, q3, q4, q5, q6, q7, q8, q9, kk, q10, q11⟩ := gx_meth hw hj' (gx_c_kd hq)
  cases hnm.symm.trans q1
  have hpt := gx_parts hj'
  have hnl80 : gx_nl j' ≤ 80 := hpt.2.2.2.2.2.2.2
  have hmk : (T.setVm vm₁).vm.method? mk = some mt := by rw [X₁.warmed.alike.method?]; exact q2
  have hpk : (T.setVm vm₁).plainMethod mk := State.plainMethod.of_named hpt.2.1 (X₁.named q1) hmk
  have hr1 := hrm.1
  have hr2 := hrm.2
  have hwt : ((gx_t ba b rest).map fun v => v.category).sum ≤ 8 := by rw [gx_t_cat]; exact hgd.1
  obtain ⟨Y₀, hin⟩ := X₁.into (g := F0 m pc ls (gx_t ba b rest)) rfl hml.symm (by rw [hb]; exact hdec) (gx_t ba b A).toArray (R' := { frames := R.frames - 1, cells := R.cells - k, slots := R.slots - u, locals := R.locals - (8 + (gx_nl j' + 11)) }) hmk q3 q8 hpk
    (by show R.frames - 1 + 1 ≤ R.frames; omega) (by
      rw [q5]
      show 2 * 0 + ((gx_t ba b rest).map fun v => v.category).sum + (gx_nl j' + 11) + (R.locals - (8 + (gx_nl j' + 11))) ≤ R.locals
      omega) (by show k + (R.cells - k) ≤ R.cells; omega) (by show u + (R.slots - u) ≤ R.slots; omega)
  have hHT : T.heap = H := hT
  have C1 : gx_cx p e s₀ D aC ba b xs j' ((T.setVm vm₁).calling (F0 m pc ls (gx_t ba b rest)) mk (gx_t ba b A).toArray) mk mt ct := by
    refine ⟨hx, htr, q4, q5, q6, q7, q8, fun hin2 => ?_, ?_, hs0, ⟨State.WarmedH.trans hle.1 X₁.warmed, fun z hz => ?_⟩, h, ?_⟩
    · have hk2 : gx_kd j' = 2 := by simpa [gx_in] using hin2
      rw [(name_of_methodNamed q1 q2).1]
      exact (hpt.2.2.2.2.2.2.1 hk2).1
    · show vm₁.findClass _ = _
      have a1 := findClass_of_methodNamed q1
      rw [hpt.2.2.2.2.1] at a1
      have a2 : (T.setVm vm₁).vm.findClass (gx_o (gx_mo j')) = s.vm.findClass (gx_o (gx_mo j')) := X₁.warmed.alike.findClass _ _
      exact a2.trans a1
    · show T.heap[z]? = _
      rw [hHT]
      exact hH z (by rw [hs0.1]; exact hz)
    · show gx_rel D aC ba b h T.heap
      rw [hHT]
      exact hr
  have hl1 : lv_has ((lg_sl (gx_t ba b A) ++ List.replicate (gx_nl j' - (lg_sl (gx_t ba b A)).length) Slot.unset).toArray) (gx_nl j') (gx_l ba b (lv_args 0 A)) := by
    rw [← gx_args]
    exact lv_entry (gx_t ba b A) (by rw [gx_sl]; exact hgd.2)
  have hrm' : gx_rm d' { frames := R.frames - 1, cells := R.cells - k, slots := R.slots - u, locals := R.locals - (8 + (gx_nl j' + 11)) } := ⟨by show d' + 8 ≤ R.frames - 1; omega, by show d' * 100 + 300 ≤ R.locals - (8 + (gx_nl j' + 11)); omega⟩
  -- the callee's run
  have callee : ∀ (oc : Outcome) (hc : gx_H) (kc uc : Nat), gx_run xs n d' j' 0 (lv_args 0 A) [] h 0 0 = some (oc, hc, kc, uc) → kc ≤ R.cells - k → uc ≤ R.slots - u →
      ∃ t, Steps p.tables e below (doInvoke e ((T.setVm vm₁).setTop (F0 m pc ls (gx_t ba b rest))) [] mk (gx_t ba b A).toArray).1 t ∧ gx_Q D aC ba b ((T.setVm vm₁).calling (F0 m pc ls (gx_t ba b rest)) mk (gx_t ba b A).toArray) (.java (F0 m pc ls (gx_t ba b rest)) :: below) oc hc kc uc t := by
    intro oc hc kc uc hrun hkc huc
    have K := ih d' j' 0 (lv_args 0 A) [] h 0 0 oc hc kc uc hrun (l := l) (e := e) (args := (gx_t ba b A).toArray) (below := .java (F0 m pc ls (gx_t ba b rest)) :: below) (H := H) (locs := []) C1 hr (fun z hz => by cases hz) hH hl1 hrm' hkc huc
    obtain ⟨t, a1, a2⟩ := K _ (by show T.heap = H; exact hHT) Y₀
    refine ⟨t, ?_, a2⟩
    rw [hin [], q5, lg_entry_eq]
    rw [q5, lg_entry_eq] at a1
    exact gx_under a1
  split at er
  · rename_i v hc kc uc hrun
    have hm2 := gx_mono xs _ _ _ _ _ _ _ _ _ _ _ _ _ er
    obtain ⟨t, a1, t1, t2, t3, ⟨L2, t4, t5⟩, t6, t7⟩ := callee _ _ _ _ hrun (by omega) (by omega)
    obtain ⟨T', X', hW', hB', ht⟩ := X₁.outOf (g := F0 m pc ls (gx_t ba b rest)) rfl (by rw [hb]; exact hdec) t2 t3 t4
    have hheap : T'.heap = t.heap := by
      have := congrArg State.heap ht
      simpa using this.symm
    have K2 := ih (d' + 1) j (pc + 3) L (v.toList ++ rest) hc (k + kc) (u + uc) o h' k' u' er (l := l) (e := e) (args := args) (below := below) (H := T'.heap) (locs := locs ++ L2) C0' (by rw [hheap]; exact t6)
      (fun z hz => (List.mem_append.mp hz).elim (hlo z) (t5 z)) (fun z hz => by
        rw [hheap, t7 z hz]
        show T.heap[z]? = _
        rw [hHT]
        exact hH z hz) hl hrm hk hu
    obtain ⟨t2', b1, b2⟩ := K2 T' rfl X'
    refine ⟨t2', hstep t2' fun acts => ?_, b2⟩
    rw [doInvoke_state]
    refine a1.trans ?_
    rw [ht]
    have e9 : gx_t ba b (v.toList ++ rest) = (v.map (gx_v ba b)).toList ++ gx_t ba b rest := by cases v <;> rfl
    rw [e9] at b1
    exact b1
  · rename_i x hc kc uc hrun
    split at er
    · rename_i hcat
      cases er
      obtain ⟨t, a1, t1, t2, t3, ⟨L2, t4, t5⟩, t6, t7⟩ := callee _ _ _ _ hrun (by omega) (by omega)
      obtain ⟨T', X', hW', hB', ht⟩ := X₁.outOfThrown (g := F0 m pc ls (gx_t ba b rest)) rfl t2 t3 t4
      have hheap : T'.heap = t.heap := by
        have := congrArg State.heap ht
        rw [Stand.throwing_heap] at this
        exact this.symm
      have hout : ∀ y ∈ c.exceptionTable.toList, covers y pc = false := gx_outside (by rw [hhand]; exact gx_catN hcat)
      obtain ⟨s1, s2, s3, s4, s5⟩ := X'.leaveThrown (ba + x) (g := F0 m pc ls (gx_t ba b rest)) rfl rfl rfl hout hlocks
      refine ⟨_, hstep _ fun acts => ?_, s2, s3, s4, ⟨locs ++ L2, s5, fun z hz => (List.mem_append.mp hz).elim (hlo z) (t5 z)⟩, ?_, fun z hz => ?_⟩
      · rw [doInvoke_state]
        refine a1.trans ?_
        rw [ht]
        exact s1
      · show gx_rel D aC ba b _ T'.heap
        rw [hheap]; exact t6
      · show T'.heap[z]? = _
        rw [hheap, t7 z hz]
        show T.heap[z]? = _
        rw [hHT, hH z hz, hle.2 z (by rw [← hs0.1]; exact hz)]
    · rename_i pc' hcat
      have hm2 := gx_mono xs _ _ _ _ _ _ _ _ _ _ _ _ _ er
      obtain ⟨t, a1, t1, t2, t3, ⟨L2, t4, t5⟩, t6, t7⟩ := callee _ _ _ _ hrun (by omega) (by omega)
      obtain ⟨T', X', hW', hB', ht⟩ := X₁.outOfThrown (g := F0 m pc ls (gx_t ba b rest)) rfl t2 t3 t4
      have hheap : T'.heap = t.heap := by
        have := congrArg State.heap ht
        rw [Stand.throwing_heap] at this
        exact this.symm
      obtain ⟨qh, tg, fs, g1, g2, g3, g4⟩ := gx_catS hcat
      rw [← hhand] at g1
      obtain ⟨pre, xe, re, e1, e2, e3, e4, e5⟩ := gx_split g1
      have hxt := gx_find g3
      obtain ⟨z1, z2⟩ := gx_XTok _ hxt
      have wxt : ∀ w ∈ gx_xtw (gx_mo j, qh.2.2.2, tg), w.before args s = true := fun w hw2 => hw w (gx_pick gx_cXT.1 gx_cXT.2 (List.mem_flatMap.mpr ⟨_, hxt, hw2⟩))
      obtain ⟨r1, y1, y2, ce, y3, y4, y5, -⟩ := (t6.2 _ _ g4).obj z2
      have hat := (hKN tg r1 y1).2
      have hnm2 : gx_xn tg = r1.1 := by unfold gx_xn; rw [y1]; rfl
      obtain ⟨kC, hkC, -⟩ := hat.2
      obtain ⟨vm₂, X₂, st2⟩ := gx_caught X' (own := gx_o (gx_mo j)) (C := gx_xn tg) hown (a := ba + x) (ce := ce) (by rw [hheap]; exact y3) y5 (by rw [hnm2, y4]; exact hat.1) ⟨kC, by rw [y4]; exact hkC⟩ (wxt _ (List.mem_cons_of_mem _ List.mem_cons_self)) (g := F0 m pc ls (gx_t ba b rest)) rfl e1 e2 e3 (by rw [e5]; exact z1) (by rw [e5]; exact wxt _ List.mem_cons_self)
      have K2 := ih (d' + 1) j pc' L [.ref x] hc (k + kc) (u + uc) o h' k' u' er (l := l) (e := e) (args := args) (below := below) (H := T'.heap) (locs := locs ++ L2) C0' (by rw [hheap]; exact t6)
        (fun z hz => (List.mem_append.mp hz).elim (hlo z) (t5 z)) (fun z hz => by
          rw [hheap, t7 z hz]
          show T.heap[z]? = _
          rw [hHT]
          exact hH z hz) hl hrm hk hu
      obtain ⟨t2', b1, b2⟩ := K2 (T'.setVm vm₂) rfl X₂
      refine ⟨t2', hstep t2' fun acts => ?_, b2⟩
      rw [doInvoke_state]
      refine a1.trans ?_
      rw [ht]
      refine st2 _ ?_
      rw [e4, g2]
      exact b1
    · cases er
  · cases er
end
section
set_option maxHeartbeats 8000000 in
theorem gx_sim (xs : Option (List Int32)) : ∀ (n d j pc : Nat) (L : gx_L) (st : List Value) (h : gx_H) (k u : Nat) (o : Outcome) (h' : gx_H) (k' u' : Nat), gx_run xs n d j pc L st h k u = some (o, h', k', u') →
    ∀ {p : Program} {l : Launch} {e : Env} {R : Room} {s : State} {m : MethodId} {args : Array Value} {below : List Frame} {meth : Method} {c : Code} {H : Heap} {locs : List Loc} {ls : Array Slot} {s₀ : State} {D : va_G} {aC : Nat → ClassId} {ba b : Nat},
      gx_cx p e s₀ D aC ba b xs j s m meth c → gx_rel D aC ba b h H → (∀ q ∈ locs, ba ≤ q.base) → (∀ q, q < ba → H[q]? = s₀.heap[q]?) → lv_has ls (gx_nl j) (gx_l ba b L) → gx_rm d R → k' ≤ R.cells → u' ≤ R.slots →
      W p l e R s m args below meth c H locs k u (gx_Q D aC ba b s below o h' k' u') (F0 m pc ls (gx_t ba b st)) := by
  intro n
  induction n with
  | zero => intro d j pc L st h k u o h' k' u' e; cases e
  | succ n ih =>
    intro d j pc L st h k u o h' k' u' er p l e R s m args below meth c H locs ls s₀ D aC ba b C0 hr hlo hH hl hrm hk hu
    have hmo := gx_mono xs (n + 1) d j pc L st h k u o h' k' u' er
    rw [gx_run] at er
    have C0' := C0
    obtain ⟨hx, htr, hb, hnl, hhand, hret, hlocks, hini, hown, hs0, hle, hrel0⟩ := C0
    have hw := gx_wat (A := args) hs0 hle
    have hKN := gx_KNm hs0.2.2.2.2.1 hle.1.alike
    have hAK := gx_AKm hs0.2.2.2.2.2.1 hle.1.alike
    have hXs := gx_Xm (s := s) (H := H) hs0 hle.1.alike hH
    have hml : c.maxLocals = ls.size := hnl.trans hl.1.symm
    have hR : 8 ≤ R.frames ∧ 300 ≤ R.locals := ⟨by have := hrm.1; omega, by have := hrm.2; omega⟩
    have hHs : ∀ q, q < ba → H[q]? = s.heap[q]? := fun q hq => (hH q hq).trans (hle.2 q (by rw [← hs0.1]; exact hq)).symm
    split at er
    · cases er
    · rename_i ins hi
      have hd := gx_dec hi
      split at er
      · rename_i q hq
        exact gx_pW hx hb hown hw hd hl hq (fun ls' hl' => ih _ _ _ _ _ _ _ _ _ _ _ _ er C0' hr hlo hH hl' hrm hk hu)
      · split at er
        · rename_i q hq
          exact gx_qW hx hb hown hw hKN hAK hr hXs hd hl hq (fun ls' hl' => ih _ _ _ _ _ _ _ _ _ _ _ _ er C0' hr hlo hH hl' hrm hk hu)
        · split at er
          · rename_i q hq
            exact gx_wW hx hb hini hown hw hKN hAK hr hlo hd hq (fun H1 locs1 hr1 hlo1 ho1 => ih _ _ _ _ _ _ _ _ _ _ _ _ er C0' hr1 hlo1 (fun z hz => (ho1 z hz).trans (hH z hz)) hl hrm hk hu)
          · split at er
            · rename_i q hq
              have hm2 := gx_mono xs _ _ _ _ _ _ _ _ _ _ _ _ _ er
              exact gx_nW hx hb hown hw hKN hAK hr hd hq (Nat.le_trans hm2.1 hk) (Nat.le_trans hm2.2 hu) (fun H1 hr1 ho1 => ih _ _ _ _ _ _ _ _ _ _ _ _ er C0' hr1 hlo (fun z hz => (ho1 z hz).trans (hH z hz)) hl hrm hk hu)
            · split at er
              · rename_i q hq
                have hm2 := gx_mono xs _ _ _ _ _ _ _ _ _ _ _ _ _ er
                exact gx_muW hx hb hown hw hAK hr hd hq (Nat.le_trans hm2.1 hk) (Nat.le_trans hm2.2 hu) (fun H1 hr1 ho1 => ih _ _ _ _ _ _ _ _ _ _ _ _ er C0' hr1 hlo (fun z hz => (ho1 z hz).trans (hH z hz)) hl hrm hk hu)
              · split at er
                · rename_i v hv
                  cases er
                  exact gx_eW C0' hr hHs hlo hi hv
                · split at er
                  · rename_i q hq
                    exact gx_biW hx hb hml hown hw hAK hr hlo hR hd hq (fun H1 locs1 hr1 hlo1 ho1 => ih _ _ _ _ _ _ _ _ _ _ _ _ er C0' hr1 hlo1 (fun z hz => (ho1 z hz).trans (hH z hz)) hl hrm hk hu)
                  · split at er
                    · rename_i t ht
                      cases er
                      exact gx_thW C0' hml hr hH hlo hR hi ht hk hu
                    · split at er
                      · rename_i d' q hq
                        obtain ⟨j', A, rest⟩ := q
                        dsimp only at er
                        split at er
                        · rename_i hgd
                          exact gx_callW (ih := ih) C0' hr hlo hH hl hrm hk hu hmo hi hq hgd er
                        · cases er
                      · cases er
end
section
def R_law : String := "CopiedGraphsLaw"
def lw_P (b : Addr) (xs : List Int32) (args : Array Value) (s : State) : Prop := args = #[.ref b] ∧ s.IntsAt b xs ∧ xs.length ≤ 6 ∧ (Jvm.Cond.and given_1 narrow_1).before args s = true
def lw_Q (_ : Array Value) (s : State) (o : Outcome) (t : State) : Prop := o = .returned (some (.int 1)) ∧ Framed s o t [] 600002 7302232
def lw_Z (below : List Frame) (a : Array Value) (s : State) : State → Prop := fun t => ∃ o, t.status = .running ∧ Ended t below o ∧ lw_Q a s o t
/-- the law's own end, with 1 on the stack, nothing written that was there before, its room as the claim has it -/
theorem lw_ret {p : Program} {l : Launch} {e : Env} {s : State} {m : MethodId} {below : List Frame} {meth : Method} {c : Code} {b : Nat} (hx : p.tables.exec = Jvm.exec) (hb : c.code = code) (hr : meth.sig.returnType = ret) (hlocks : meth.locks = false) {pc : Nat} {H : Heap} {ls : Array Slot} (hdg : decode code pc = .ok (.ireturn, 1)) : W p l e room_1 s m #[Value.ref b] below meth c H [] 600002 7302232 (lw_Z below #[Value.ref b] s) (F0 m pc ls [.int 1]) := by
  intro T hT X
  obtain ⟨fs, hret, hrun, hended, hW, hframe⟩ := X.leave (v := some (.int 1)) (hlocks := hlocks) (fun h => by rw [hr] at h; cases h)
  have hmeth' : T.vm.method? m = some meth := X.method'
  refine ⟨T.setFrames fs, ?_, .returned (some (.int 1)), hrun, hended, rfl, ⟨_, rfl⟩, hW, hframe⟩
  jvm_step X.here [X.here.top, hx, hb, hdg, hmeth', hr, ret, narrow_b1]
  (try refine ⟨rfl, ?_⟩); (try refine ⟨rfl, ?_⟩)
  first | (intro acts; rw [hret _ acts rfl rfl rfl]) | rw [hret _ _ rfl rfl rfl]
  exact Steps.refl _
/-- what holds at the law's entry: the machine, the code, the tables' words (any of lw_tbl by 'hts w (by decide +kernel)'), the script of L ints xs at the cell b, what the Statement gives of the start (any of its parts by flat_of_before) -/
def lw_At (p : Program) (s : State) (m : MethodId) (meth : Method) (c : Code) (b L : Nat) (xs : Nat → Int32) : Prop :=
  p.tables.exec = Jvm.exec ∧ c.code = code ∧ meth.sig.returnType = ret ∧ c.maxLocals = 8 ∧ s.vm.findClass R_law = some m.cls ∧ (∀ w ∈ lw_tbl, w.before #[Value.ref b] s = true) ∧ va_X b L xs s s.heap ∧ b < s.heap.size ∧ meth.locks = false ∧ (Jvm.Cond.and given_1 narrow_1).before #[Value.ref b] s = true
/-- the classes' numbers at the start -/
theorem gx_start_D {s : State} {b : Nat} (hts : ∀ w ∈ lw_tbl, w.before #[Value.ref b] s = true) : ∃ D : va_G, gx_KN s D := by
  have hall : gx_cl.all (fun r => lw_tbl.any (fun w => match w with | .instantiable C _ => decide (C = r.1) | _ => false)) = true := by decide +kernel
  have key : ∀ ci : Nat, ∃ pr : ClassId × (Nat → Nat), ∀ q : vw_C, gx_cl[ci]? = some q → u_Kn s q.1 q.2.1 q.2.2 pr.1 pr.2 := by
    intro ci
    cases hq : gx_cl[ci]? with
    | none => exact ⟨(0, fun _ => 0), fun q hq2 => by cases hq2⟩
    | some q =>
      obtain ⟨w, hw, hw2⟩ := List.any_eq_true.mp (List.all_eq_true.mp hall q (List.mem_of_getElem? hq))
      split at hw2
      · rename_i C n
        have hC : C = q.1 := of_decide_eq_true hw2
        subst hC
        obtain ⟨cC, iS, h⟩ := u_known (T := q.2.1) (N := q.2.2) hts (fun w hw => (List.mem_filter.mp (gx_wC hq w hw)).1) (hts _ hw)
        exact ⟨(cC, iS), fun q2 hq2 => by cases hq2; exact h⟩
      · cases hw2
  exact ⟨(fun ci => (Classical.choose (key ci)).1, fun ci => (Classical.choose (key ci)).2), fun ci q hq => Classical.choose_spec (key ci) q hq⟩
/-- the array classes' numbers at the start -/
theorem gx_start_A {s : State} {b : Nat} (hts : ∀ w ∈ lw_tbl, w.before #[Value.ref b] s = true) : ∃ aC : Nat → ClassId, gx_AK s aC := by
  have ain : ∀ {w : Jvm.Cond}, w ∈ gx_words → w.before #[Value.ref b] s = true := fun hw => hts _ (List.mem_filter.mp hw).1
  have key : ∀ t : Nat, ∃ cA : ClassId, t < 5 → ∃ (k : Class) (comp : ClassId), s.vm.classes[cA]? = some k ∧ k.kind = .array comp (gx_ty t) ∧ s.vm.findClass ("[" ++ (gx_ty t).toString) = some cA ∧ (t = 3 → s.vm.findClass gx_elem = some comp) := by
    intro t
    match t with
    | 0 =>
      obtain ⟨cA, kA, comp, h1, h2, h3⟩ := Cond.arrayClass_spec (ain (gx_wA (w := .arrayClass .int) (by simp)))
      exact ⟨cA, fun _ => ⟨kA, comp, h2, h3, h1, fun e => by cases e⟩⟩
    | 1 =>
      obtain ⟨cA, kA, comp, h1, h2, h3⟩ := Cond.arrayClass_spec (ain (gx_wA (w := .arrayClass .long) (by simp)))
      exact ⟨cA, fun _ => ⟨kA, comp, h2, h3, h1, fun e => by cases e⟩⟩
    | 2 =>
      obtain ⟨cA, kA, comp, h1, h2, h3⟩ := Cond.arrayClass_spec (ain (gx_wA (w := .arrayClass .boolean) (by simp)))
      exact ⟨cA, fun _ => ⟨kA, comp, h2, h3, h1, fun e => by cases e⟩⟩
    | 3 =>
      obtain ⟨comp, cA, kA, h1, h2, h3, h4, h5⟩ := Cond.arrayOver_spec (ain gx_wO)
      exact ⟨cA, fun _ => ⟨kA, comp, h3, h4, h5, fun _ => h1⟩⟩
    | 4 =>
      have h := ain (gx_pick gx_cMU.1 gx_cMU.2 (w := .arrayOver (.array .int)) (List.mem_append_right _ List.mem_cons_self))
      simp only [Cond.before, Cond.holds, Cond.value, beq_iff_eq, Option.bind_eq_some_iff, Option.map_eq_some_iff] at h
      obtain ⟨comp, hc, cA, hi, k, hk, hb⟩ := h
      split at hb
      · rename_i comp' ty hkd
        simp only [Bool.and_eq_true, decide_eq_true_eq] at hb
        obtain ⟨rfl, hb2⟩ := hb
        exact ⟨cA, fun _ => ⟨k, comp', hk, hkd, hb2, fun e => by cases e⟩⟩
      · cases hb
    | t + 5 => exact ⟨0, fun h => by omega⟩
  exact ⟨fun t => Classical.choose (key t), fun t ht => Classical.choose_spec (key t) ht⟩
/-- the law's run on the small machine: what is still wanted -/
def gx_Law (N : Nat) : Prop := ∀ xs : List Int32, xs.length ≤ N → ∃ (n d : Nat) (h' : gx_H) (k' u' : Nat), gx_run (some xs) n d 195 0 [(0, .float 0)] [] [] 0 0 = some (.returned (some (.int 1)), h', k', u') ∧ d ≤ 800 ∧ k' ≤ 600002 ∧ u' ≤ 7302232
set_option maxHeartbeats 8000000 in
theorem whole_start (hlaw : gx_Law 6) {p : Program} {e : Env} {s : State} {m : MethodId} {below : List Frame} {meth : Method} {c : Code} (l : Launch) (hfl : l.flags = flags0) {b L : Nat} {xs : Nat → Int32} (hL : L ≤ 6) (hne : c.exceptionTable.isEmpty = true) (C0 : lw_At p s m meth c b L xs) : W p l e room_1 s m #[Value.ref b] below meth c s.heap [] 0 0 (lw_Z below #[Value.ref b] s) (entryFrame m ([Value.ref b] : List Value).toArray 8) := by
  obtain ⟨hx, hb, hret, hml, hown, hts, hX, hbl, hlocks, hgv⟩ := C0
  obtain ⟨D, hD⟩ := gx_start_D hts
  obtain ⟨aC, hA⟩ := gx_start_A hts
  obtain ⟨n, d, h', k', u', hrun, hd, hk, hu⟩ := hlaw ((List.range L).map xs) (by simpa using hL)
  have hfl2 := flat_of_before _ hgv
  intro T hT X
  have htr : e.platform.stackTraces = false := by
    rw [X.admits.platform]
    show l.stackTraces = false
    unfold Launch.stackTraces
    rw [hfl]
    decide +kernel
  have hs0 : gx_s0 s D aC s.heap.size b (some ((List.range L).map xs)) := by
    refine ⟨rfl, hbl, hts, ⟨hfl2 _ (by decide +kernel), hfl2 _ (by decide +kernel)⟩, hD, hA, fun l2 hl2 => ?_, fun z hz => ?_⟩
    · cases hl2
      obtain ⟨scr, q1, q2, q3, q4, q5⟩ := hX
      refine ⟨scr, q1, q2, q3, by simpa using q4, fun j x hj => ?_⟩
      rw [List.getElem?_map] at hj
      obtain ⟨i, hi, hx2⟩ := Option.map_eq_some_iff.mp hj
      have hjl : j < L := by
        rcases Nat.lt_or_ge j L with q | q
        · exact q
        · rw [List.getElem?_eq_none (by simpa using q)] at hi; cases hi
      rw [List.getElem?_range hjl] at hi
      cases hi
      rw [← hx2]
      exact q5 j hjl
    · have hall : gx_ST.all (fun z => decide (Jvm.Cond.exactly (.string (gx_o z.1) z.2.1) "java/lang/String" ∈ flatC (Jvm.Cond.and given_1 narrow_1))) = true := by decide +kernel
      obtain ⟨a, _, _, _, q1, -⟩ := Cond.exactly_spec (hfl2 _ (of_decide_eq_true (List.all_eq_true.mp hall z hz)))
      have hsr : Jvm.Cond.stringRef (gx_o z.1) z.2.1 z.2.2 ∈ lw_tbl := by
        have h1 : Jvm.Cond.stringRef (gx_o z.1) z.2.1 z.2.2 ∈ gx_ST.map (fun z => Jvm.Cond.stringRef (gx_o z.1) z.2.1 z.2.2) := List.mem_map.mpr ⟨z, hz, rfl⟩
        rw [gx_cST] at h1
        obtain ⟨i, -, hi⟩ := List.mem_filterMap.mp h1
        exact List.mem_of_getElem? hi
      exact ⟨a, vk_R.of (hts _ hsr) q1⟩
  have hrel : gx_rel D aC s.heap.size b [] s.heap := ⟨by simp, fun k c hk => by cases hk⟩
  have hnh : c.exceptionTable.toList = [] := by
    have h0 : c.exceptionTable.size = 0 := by simpa [Array.isEmpty] using hne
    exact List.eq_nil_of_length_eq_zero (by simpa using h0)
  have C1 : gx_cx p e s D aC s.heap.size b (some ((List.range L).map xs)) 195 s m meth c := by
    refine ⟨hx, htr, hb, hml, by rw [hnh]; rfl, hret, hlocks, fun h => (by cases h), hown, hs0, ⟨State.WarmedH.refl s, fun _ _ => rfl⟩, [], hrel⟩
  rw [lg_entry_eq]
  have hl := lv_entry ([Value.ref b]) (n := 8) (Nat.le_of_ble_eq_true rfl)
  have K := gx_sim (some ((List.range L).map xs)) n d 195 0 [(0, .float 0)] [] [] 0 0 _ h' k' u' hrun (l := l) (R := room_1) (args := #[Value.ref b]) (below := below) (H := s.heap) (locs := []) C1 hrel (fun q hq => by cases hq) (fun _ _ => rfl) hl ⟨by show d + 8 ≤ 2048; omega, by show d * 100 + 300 ≤ 84000; omega⟩ hk hu
  obtain ⟨t, a1, t1, t2, t3, ⟨L2, t4, t5⟩, t6, t7⟩ := K T hT X
  refine ⟨t, a1, _, t1, t2, rfl, ⟨_, rfl⟩, t3, t4.weaken (fun y hy hlt => ?_) hk hu⟩
  exact absurd hlt (Nat.not_lt.mpr (t5 y hy))
end
section
set_option maxHeartbeats 4000000 in
theorem lw_walk (hlaw : gx_Law 6) (l : Launch) (hfl : l.flags = flags0) (b : Addr) (xs : List Int32) : MetFree l x (headSpec (Jvm.Cond.code x code maxLocals ret :: tables_1) room_1) (lw_P b xs) (fun _ _ _ _ _ => True) lw_Q := by
  refine MetFree.of_bodyS (code := code) (maxLocals := maxLocals) (ret := ret) (by decide) ?_ ?_
  · intro args s m h hn
    obtain ⟨meth, c, h1, h2, h3, h4, h5, h6, -, -⟩ := Cond.code_spec hn (atoms_spec (ws := Jvm.Cond.code x code maxLocals ret :: tables_1) h _ List.mem_cons_self)
    exact ⟨meth, c, h1, h2, h3, h4, h5, h6⟩
  · intro p e s m args below meth c s₁ B hml0 hP _
    obtain ⟨rfl, hx, hbd, hgv⟩ := hP
    obtain ⟨scr, harrAt, hlist, hof, hsmall⟩ := hx
    obtain ⟨hcb, hkn, -, -⟩ := State.arrayAt?_spec harrAt
    have hown : s.vm.findClass R_law = some m.cls := findClass_of_methodNamed B.named
    have hts0 : ∀ c ∈ (Jvm.Cond.code x code maxLocals ret :: tables_1), c.before #[Value.ref b] s = true := atoms_spec (ws := Jvm.Cond.code x code maxLocals ret :: tables_1) B.pre
    have hts : ∀ w ∈ lw_tbl, w.before #[Value.ref b] s = true := k2_hts_sels lw_privs (fun w hw => hts0 w (List.mem_cons_of_mem _ hw)) lw_privs_ok
    have hml : c.maxLocals = 8 := B.maxLocals_eq (hts0 _ List.mem_cons_self)
    have X₀ : Stand p l e room_1 s m #[Value.ref b] below meth c s₁ [] 0 0 := Stand.of_body B
    have hh0 : s₁.heap = s.heap := by rw [B.state]; rfl
    have hsz : scr.slots.size = xs.length := by rw [← Array.length_toList, hlist, List.length_map]
    have hval : ∀ j : Nat, j < xs.length → scr.slots[j]? = some (.int (xs.getD j 0)) := fun j hj => by
      rw [← Array.getElem?_toList, hlist]
      simp [hj]
    have hbl : b < s.heap.size := (Array.getElem?_eq_some_iff.mp hcb).1
    have hX : va_X b xs.length (fun j => xs.getD j 0) s s.heap := ⟨scr, hcb, hof, hkn, hsz, hval⟩
    have K : W p l e room_1 s m #[Value.ref b] below meth c s₁.heap [] 0 0 (lw_Z below #[Value.ref b] s) (entryFrame m ([Value.ref b] : List Value).toArray 8) := by
      rw [hh0]
      exact whole_start hlaw l hfl hbd (B.noHandlers (hts0 _ List.mem_cons_self)) ⟨B.exec, B.bytes, B.returns, hml, hown, hts, hX, hbl, B.notSynchronized, hgv⟩
    obtain ⟨t, a1, o, b1, b2, b3⟩ := K s₁ rfl X₀
    exact ⟨t, o, a1, b1, b2, b3⟩
theorem lw_pre_spec {args : Array Value} {s : State} (h : (Jvm.Cond.and given_1 narrow_1).before args s = true) (hr : rest_1_c.before args s = true) : ∃ (b : Addr) (xs : List Int32), lw_P b xs args s := by
  have hs := flat_of_before _ h
  have hq := flat_of_before _ hr
  have hc : (Cond.count 1).before args s = true := hs _ (by decide +kernel)
  have harr : (Cond.arrayOf (.arg 0) .int).before args s = true := hs _ (by decide +kernel)
  have hle : (Cond.le (.length (.arg 0)) (.int 6)).before args s = true := hs _ (by decide +kernel)
  have hlen : (Cond.isInt (.length (.arg 0))).before args s = true := hq _ (by decide +kernel)
  have hall : (Cond.all (.arg 0) (.isInt (.elem (.arg 0) (.index 0)))).before args s = true := hq _ (by decide +kernel)
  obtain ⟨b, xs, hb, hx⟩ := State.ints_of_pre rfl harr hlen hall
  have hsm : xs.length < 2 ^ 31 := hx.choose_spec.2.2.2
  have hev : (Term.length (.arg 0)).eval args s none [] s = some (.int xs.length.toInt32) := hx.length_eval hb
  have hv := Cond.le_ints hev (show (Term.int 6).eval args s none [] s = some (.int 6) from rfl)
  have hd : xs.length.toInt32 ≤ 6 := by
    simpa [Cond.before, Cond.holds, hv] using hle
  have hN : xs.length ≤ 6 := (Int32.ofNat_le_ofNat hsm (by decide)).mp (show Int32.ofNat xs.length ≤ Int32.ofNat 6 from hd)
  exact ⟨b, xs, Cond.one_arg hc (show args[0]? = some (.ref b) from hb), hx, hN, h⟩
theorem lw_comes (hlaw : gx_Law 6) (l : Launch) (hfl : l.flags = flags0) : Comes l x (Jvm.Cond.code x code maxLocals ret :: tables_1) room_1 (fun tb e args s => Calls_1 tb e args s ∧ rest_1 tb e args s ∧ Pre_1 tb e args s)
    (fun _ _ args s o t => lw_Q args s o t) := by
  intro p e ha hc hk s m args below hf hfit hheap happ hpre
  obtain ⟨b, xs, hP⟩ := lw_pre_spec hpre.2.2 hpre.2.1
  obtain ⟨k, o, h1, h2, h3, hQ⟩ := lw_walk hlaw l hfl b xs p e ha hc hk s m args below hf ((Spec.applies_iff_loose hf).mp happ).1 hP trivial
  exact ⟨k, o, h1, h2, h3, hQ⟩
theorem lw_frame {s t : State} {o : Outcome} {args : Array Value} (h : Framed s o t [] 600002 7302232) :
    Framed s o t (fieldLocs frame_1_writes args s ++ arrayLocs frame_1_arrays args s ++ staticLocs frame_1_statics s) 600002 7302232 := h
theorem lw_limb (hlaw : gx_Law 6) (L : Cond) (hL : ∀ (args : Array Value) (s t : State), L.after args s (.returned (some (.int 1))) t = true) :
    ArmFor flags0 classFile x code maxLocals ret World_1 tables_1 room_1 Calls_1 rest_1 Pre_1
      (fun tb e a s o t => postC L tb e a s o t ∧ Framed s o t (fieldLocs frame_1_writes a s ++ arrayLocs frame_1_arrays a s ++ staticLocs frame_1_statics s) 600002 7302232) := by
  intro l hfl _ _ p e ha hc hk s m args below hf hfit hheap happ hpre
  obtain ⟨k, o, h1, h2, h3, rfl, hF⟩ := lw_comes hlaw l hfl p e ha hc hk s m args below hf hfit hheap happ hpre
  exact ⟨k, _, h1, h2, h3, hL args s _, lw_frame hF⟩
theorem i_vc_open (hlaw : gx_Law 6) : Claimed_1_1 ∧ Claimed_1_2 := ⟨lw_limb hlaw limb_1_1 (fun args s t => by simp [limb_1_1, Cond.after, Cond.holds, Cond.value]), lw_limb hlaw limb_1_2 (fun args s t => Cond.after_iff.mpr (by
  first | (rw [show limb_1_2 = Cond.eq .result (.int 1) from rfl, Cond.eq_ints (x := 1) (y := 1) rfl rfl]; simp; done) | (simp [limb_1_2, Cond.value, Term.eval]; done)))⟩
end
section
/-! what the small machine does from a place on, told by what is known of its locals -/
def gv_u : Option Nat → Value
  | none => .null
  | some a => .ref a
def gv_r : Value → Option (Option Nat)
  | .ref a => some (some a)
  | .null => some none
  | _ => none
theorem gv_r_e {v : Value} {x : Option Nat} (h : gv_r v = some x) : v = gv_u x := by
  unfold gv_r at h; split at h <;> cases h <;> rfl
theorem gv_u_cat (x : Option Nat) : (gv_u x).category = 1 := by cases x <;> rfl
theorem gv_u_ref (x : Option Nat) : (gv_u x).isRef = true := by cases x <;> rfl
/-- more fuel, more depth, or a script where there was none, and the run is the same -/
theorem gx_q_up {xs : Option (List Int32)} {o : Nat} {h : gx_H} {ins : Instr} {pc : Nat} {L : gx_L} {st : List Value} {q : Nat × gx_L × List Value} (e : gx_q none o h ins pc L st = some q) : gx_q xs o h ins pc L st = some q := by
  by_cases c1 : ins = .iaload
  · subst c1
    unfold gx_q at e ⊢
    dsimp only at e ⊢
    split at e
    · exact e
    · cases hs : gx_sc st <;> simp [hs] at e
  · by_cases c2 : ins = .arraylength
    · subst c2
      unfold gx_q at e ⊢
      dsimp only at e ⊢
      split at e <;> simp at e
    · cases ins <;> first | exact e | exact absurd rfl c1 | exact absurd rfl c2
theorem gx_q_no {xs : Option (List Int32)} {o : Nat} {h : gx_H} {ins : Instr} {pc : Nat} {L : gx_L} {st : List Value} {q : Nat × gx_L × List Value} (e : gx_q none o h ins pc L st = none) (e2 : gx_q xs o h ins pc L st = some q) : ins = .iaload ∨ ins = .arraylength := by
  cases ins <;> first | exact Or.inl rfl | exact Or.inr rfl | skip
  all_goals (have e3 := e.symm.trans e2; cases e3)
set_option maxHeartbeats 4000000 in
theorem gv_up (xs : Option (List Int32)) {xs0 : Option (List Int32)} (hx : xs0 = xs ∨ xs0 = none) : ∀ (n n' d d' j pc : Nat) (L : gx_L) (st : List Value) (h : gx_H) (k u : Nat) (r : Outcome × gx_H × Nat × Nat), n ≤ n' → d ≤ d' → gx_run xs0 n d j pc L st h k u = some r → gx_run xs n' d' j pc L st h k u = some r := by
  intro n
  induction n with
  | zero => intro n' d d' j pc L st h k u r _ _ e; cases e
  | succ n ih =>
    intro n' d d' j pc L st h k u r hn hd e
    obtain ⟨n', rfl⟩ : ∃ m, n' = m + 1 := ⟨n' - 1, by omega⟩
    have hn : n ≤ n' := by omega
    rw [gx_run] at e ⊢
    cases hI : gx_I j pc with
    | none => simp only [hI] at e; cases e
    | some ins =>
    simp only [hI] at e ⊢
    cases hp : gx_p (gx_mo j) (gx_nl j) ins pc L st with
    | some q => simp only [hp] at e ⊢; exact ih _ _ _ _ _ _ _ _ _ _ _ hn hd e
    | none =>
    simp only [hp] at e ⊢
    cases hq : gx_q xs0 (gx_mo j) h ins pc L st with
    | some q =>
      have hq2 : gx_q xs (gx_mo j) h ins pc L st = some q := by
        rcases hx with rfl | rfl
        · exact hq
        · exact gx_q_up hq
      simp only [hq] at e
      simp only [hq2]
      exact ih _ _ _ _ _ _ _ _ _ _ _ hn hd e
    | none =>
    simp only [hq] at e
    have hq2 : gx_q xs (gx_mo j) h ins pc L st = none := by
      rcases hx with rfl | rfl
      · exact hq
      · cases hq3 : gx_q xs (gx_mo j) h ins pc L st with
        | none => rfl
        | some q =>
          exfalso
          rcases gx_q_no hq hq3 with rfl | rfl
          · cases d <;> cases e
          · cases d <;> cases e
    simp only [hq2]
    cases hw : gx_w (gx_mo j) (gx_in j) h ins pc st with
    | some q => simp only [hw] at e ⊢; exact ih _ _ _ _ _ _ _ _ _ _ _ hn hd e
    | none =>
    simp only [hw] at e ⊢
    cases hnn : gx_n (gx_mo j) h ins pc st with
    | some q => simp only [hnn] at e ⊢; exact ih _ _ _ _ _ _ _ _ _ _ _ hn hd e
    | none =>
    simp only [hnn] at e ⊢
    cases hmu : gx_mu (gx_mo j) h ins pc st with
    | some q => simp only [hmu] at e ⊢; exact ih _ _ _ _ _ _ _ _ _ _ _ hn hd e
    | none =>
    simp only [hmu] at e ⊢
    cases he : gx_e j ins st with
    | some q => simp only [he] at e ⊢; exact e
    | none =>
    simp only [he] at e ⊢
    cases hbi : gx_bi (gx_mo j) h ins pc st with
    | some q => simp only [hbi] at e ⊢; exact ih _ _ _ _ _ _ _ _ _ _ _ hn hd e
    | none =>
    simp only [hbi] at e ⊢
    cases hth : gx_th j pc ins st with
    | some q => simp only [hth] at e ⊢; exact e
    | none =>
    simp only [hth] at e ⊢
    cases hc : gx_c (gx_mo j) h ins st with
    | none => simp only [hc] at e; cases d <;> cases e
    | some q =>
    cases d with
    | zero => simp only [hc] at e; cases e
    | succ d =>
    obtain ⟨d', rfl⟩ : ∃ m, d' = m + 1 := ⟨d' - 1, by omega⟩
    have hd' : d ≤ d' := by omega
    simp only [hc] at e ⊢
    split at e
    · rename_i hcond
      rw [if_pos hcond]
      cases hr : gx_run xs0 n d q.1 0 (lv_args 0 q.2.1) [] h 0 0 with
      | none => simp only [hr] at e; cases e
      | some r1 =>
        have hr2 := ih n' d d' _ _ _ _ _ _ _ _ hn hd' hr
        simp only [hr] at e
        simp only [hr2]
        obtain ⟨oc, h1, kc, uc⟩ := r1
        cases oc with
        | returned v => exact ih _ _ _ _ _ _ _ _ _ _ _ hn hd e
        | threw x =>
          cases hcat : gx_cat j pc h1 x with
          | none => simp only [hcat] at e; cases e
          | some z =>
            cases z with
            | none => simp only [hcat] at e ⊢; exact e
            | some pc2 => simp only [hcat] at e ⊢; exact ih _ _ _ _ _ _ _ _ _ _ _ hn hd e
    · cases e
def gv_S (E L : gx_L) : Prop := ∀ i v, E.lookup i = some v → L.lookup i = some v
def gv_V (xs : Option (List Int32)) (D j pc : Nat) (E : gx_L) (st : List Value) (h : gx_H) (o : Outcome) (h' : gx_H) : Prop :=
  h.length ≤ h'.length ∧ ∀ L : gx_L, gv_S E L → ∃ n, ∀ d, D ≤ d → ∀ k u, gx_run xs n d j pc L st h k u = some (o, h', k + (h'.length - h.length), u + 6 * (h'.length - h.length))
theorem gv_S0 {L : gx_L} : gv_S [] L := fun i v e => by cases e
theorem gv_S1 {E L : gx_L} {i : Nat} {v : Value} (h1 : L.lookup i = some v) (h2 : gv_S E L) : gv_S ((i, v) :: E) L := fun m w e => by
  rw [List.lookup_cons] at e
  split at e
  · rename_i q
    have q : m = i := by simpa using q
    cases e; rw [q]; exact h1
  · exact h2 m w e
theorem gv_Sr {L : gx_L} : gv_S L L := fun _ _ e => e
/-- no long lies just below local i -/
def gv_C (E : gx_L) (i : Nat) : Prop := ∀ m v, m + 1 = i → E.lookup m = some v → v.category = 1
theorem gv_C0 {E : gx_L} : gv_C E 0 := fun m v e => by omega
theorem gv_Cn {E : gx_L} {m : Nat} (h : E.lookup m = none) : gv_C E (m + 1) := fun m' v e e2 => by
  obtain rfl : m' = m := by omega
  rw [h] at e2; cases e2
theorem gv_Ci {E : gx_L} {m : Nat} {x : Int32} (h : E.lookup m = some (.int x)) : gv_C E (m + 1) := fun m' v e e2 => by
  obtain rfl : m' = m := by omega
  rw [h] at e2; cases e2; rfl
theorem gv_Cr {E : gx_L} {m : Nat} {x : Option Nat} (h : E.lookup m = some (gv_u x)) : gv_C E (m + 1) := fun m' v e e2 => by
  obtain rfl : m' = m := by omega
  rw [h] at e2; cases e2; exact gv_u_cat x
theorem gv_Cf {E : gx_L} {m : Nat} {x : UInt32} (h : E.lookup m = some (.float x)) : gv_C E (m + 1) := fun m' v e e2 => by
  obtain rfl : m' = m := by omega
  rw [h] at e2; cases e2; rfl
theorem gv_filter {L : gx_L} {m : Nat} {w : Value} {f : Nat × Value → Bool} (h : L.lookup m = some w) (hf : f (m, w) = true) : (L.filter f).lookup m = some w := by
  induction L with
  | nil => cases h
  | cons q r ih =>
    obtain ⟨a, v⟩ := q
    rw [List.lookup_cons] at h
    split at h
    · rename_i e
      have e : m = a := by simpa using e
      cases h; subst e
      rw [List.filter_cons, if_pos hf, List.lookup_cons]; simp
    · rename_i e
      rw [List.filter_cons]
      split
      · rw [List.lookup_cons]; simp only [e]; exact ih h
      · exact ih h
theorem gv_S_s1 {E L : gx_L} {i : Nat} {v : Value} (hL : gv_S E L) (hc : gv_C E i) : gv_S ((i, v) :: E) (gx_s1 L i v) := fun m w e => by
  rw [List.lookup_cons] at e
  unfold gx_s1
  rw [List.lookup_cons]
  split at e
  · exact e
  · rename_i q
    refine gv_filter (hL m w e) ?_
    have q : ¬ m = i := by simpa using q
    by_cases h2 : m + 1 = i
    · have := hc m w h2 e
      simp [q, this]
    · simp [q, h2]
theorem gv_S_s2 {E L : gx_L} {i : Nat} {v : Value} (hL : gv_S E L) (hc : gv_C E i) (hn : E.lookup (i + 1) = none) : gv_S ((i, v) :: E) (gx_s2 L i v) := fun m w e => by
  rw [List.lookup_cons] at e
  unfold gx_s2
  rw [List.lookup_cons]
  split at e
  · exact e
  · rename_i q
    refine gv_filter (hL m w e) ?_
    have q : ¬ m = i := by simpa using q
    have q2 : ¬ m = i + 1 := fun h => by rw [h, hn] at e; cases e
    by_cases h2 : m + 1 = i
    · have := hc m w h2 e
      simp [q, q2, this]
    · simp [q, q2, h2]
/-- the room that arguments take, and where they lie -/
def gv_z (A : List Value) (n : Nat) : Prop := (lg_sl A).length = n
theorem gv_z0 : gv_z [] 0 := rfl
theorem gv_zI {A : List Value} {n : Nat} {x : Int32} (h : gv_z A n) : gv_z (.int x :: A) (n + 1) := by unfold gv_z at *; rw [← h]; simp [lg_sl, Value.category]
theorem gv_zJ {A : List Value} {n : Nat} {x : Int64} (h : gv_z A n) : gv_z (.long x :: A) (n + 2) := by unfold gv_z at *; rw [← h]; simp [lg_sl, Value.category]
theorem gv_zR {A : List Value} {n : Nat} {x : Option Nat} (h : gv_z A n) : gv_z (gv_u x :: A) (n + 1) := by unfold gv_z at *; rw [← h]; cases x <;> simp [lg_sl, gv_u, Value.category]
def gv_a (i : Nat) (A : List Value) (E : gx_L) : Prop := lv_args i A = E
theorem gv_a0 {i : Nat} : gv_a i [] [] := rfl
theorem gv_aI {i : Nat} {A : List Value} {E : gx_L} {x : Int32} (h : gv_a (i + 1) A E) : gv_a i (.int x :: A) ((i, .int x) :: E) := by unfold gv_a at *; rw [← h]; rfl
theorem gv_aJ {i : Nat} {A : List Value} {E : gx_L} {x : Int64} (h : gv_a (i + 2) A E) : gv_a i (.long x :: A) ((i, .long x) :: E) := by unfold gv_a at *; rw [← h]; rfl
theorem gv_aR {i : Nat} {A : List Value} {E : gx_L} {x : Option Nat} (h : gv_a (i + 1) A E) : gv_a i (gv_u x :: A) ((i, gv_u x) :: E) := by unfold gv_a at *; rw [← h]; cases x <;> rfl
theorem gv_cat2 (v : Value) : v.category ≤ 2 := by cases v <;> simp [Value.category]
theorem gv_lt {a b : Nat} (h : Nat.blt a b = true) : a < b := Nat.le_of_ble_eq_true h
theorem gv_sum (r : List Value) (h : Nat.ble r.length 4 = true) : (r.map fun v => v.category).sum ≤ 8 := by
  have h : r.length ≤ 4 := Nat.le_of_ble_eq_true h
  have : ∀ r : List Value, (r.map fun v => v.category).sum ≤ 2 * r.length := fun r => by
    induction r with
    | nil => simp
    | cons v r ih => have := gv_cat2 v; simp only [List.map_cons, List.sum_cons, List.length_cons]; omega
  have := this r
  omega
/-! reading and writing, typed -/
def gv_gV (h : gx_H) (x : Option Nat) (c i : Nat) : Option Value := x.bind fun a => (gx_ob h a c).bind fun fs => fs[i]?
def gv_gI (h : gx_H) (x : Option Nat) (c i : Nat) : Option Int32 := (gv_gV h x c i).bind gx_i1
def gv_gJ (h : gx_H) (x : Option Nat) (c i : Nat) : Option Int64 := (gv_gV h x c i).bind gx_l1
def gv_gR (h : gx_H) (x : Option Nat) (c i : Nat) : Option (Option Nat) := (gv_gV h x c i).bind gv_r
def gv_pV (h : gx_H) (x : Option Nat) (c i : Nat) (v : Value) : Option gx_H := x.bind fun a => (gx_ob h a c).bind fun fs => if i < fs.length then some (h.set a (c, fs.set i v)) else none
def gv_lI (h : gx_H) (x : Option Nat) (i : Int32) : Option Int32 := x.bind fun a => (gx_rd h a 100 i).bind gx_i1
def gv_lJ (h : gx_H) (x : Option Nat) (i : Int32) : Option Int64 := x.bind fun a => (gx_rd h a 101 i).bind gx_l1
def gv_lZ (h : gx_H) (x : Option Nat) (i : Int32) : Option Int32 := x.bind fun a => (gx_rd h a 102 i).bind gx_i1
def gv_lT (h : gx_H) (x : Option Nat) (i : Int32) : Option (Option Nat) := x.bind fun a => (gx_rd h a 103 i).bind gv_r
def gv_lA (h : gx_H) (x : Option Nat) (i : Int32) : Option (Option Nat) := x.bind fun a => (gx_rd h a 104 i).bind gv_r
def gv_wI (h : gx_H) (x : Option Nat) (i : Int32) (v : Int32) : Option gx_H := x.bind fun a => gx_wr h a 100 i (.int v)
def gv_wJ (h : gx_H) (x : Option Nat) (i : Int32) (v : Int64) : Option gx_H := x.bind fun a => gx_wr h a 101 i (.long v)
def gv_wZ (h : gx_H) (x : Option Nat) (i : Int32) (v : Int32) : Option gx_H := x.bind fun a => gx_wr h a 102 i (.int (v &&& 1))
def gv_is (h : gx_H) (x : Option Nat) (c : Nat) : Option Nat := x.bind fun a => (gx_ob h a c).map fun _ => a
def gv_cp (h : gx_H) (x : Option Nat) (sp : Int32) (y : Option Nat) (dp n : Int32) : Option gx_H := x.bind fun a0 => y.bind fun a => (gx_ob h a0 100).bind fun vs => (gx_ob h a 100).bind fun ws =>
  if ¬ sp < 0 ∧ ¬ dp < 0 ∧ ¬ n < 0 ∧ sp.toNatClampNeg + n.toNatClampNeg ≤ vs.length ∧ dp.toNatClampNeg + n.toNatClampNeg ≤ ws.length ∧ vs.all (fun v => (gx_i1 v).isSome) = true then some (h.set a (100, gx_cpy vs ws sp.toNatClampNeg dp.toNatClampNeg n.toNatClampNeg)) else none
def gv_fk (ci k : Nat) : Nat := match gx_cl[ci]? with
  | some r => if (r.2.1 k).2.2.2 = true then 0 else match gx_fty ci k with
    | .int => 1
    | .long => 2
    | .boolean => 3
    | _ => 0
  | none => 0
theorem gv_fok1 {ini : Bool} {o ci k : Nat} {x : Int32} (h : gv_fk ci k = 1) : gx_fok ini o ci k (.int x) = true := by
  unfold gv_fk at h; unfold gx_fok
  split at h
  · rename_i r hr
    rw [hr]
    split at h
    · cases h
    · rename_i hf
      split at h <;> rename_i hT <;> first | cases h | skip
      rw [hT]
      simp [narrow, fits, gx_fl, hf]
  · cases h
theorem gv_fok2 {ini : Bool} {o ci k : Nat} {x : Int64} (h : gv_fk ci k = 2) : gx_fok ini o ci k (.long x) = true := by
  unfold gv_fk at h; unfold gx_fok
  split at h
  · rename_i r hr
    rw [hr]
    split at h
    · cases h
    · rename_i hf
      split at h <;> rename_i hT <;> first | cases h | skip
      rw [hT]
      simp [narrow, fits, gx_fl, hf]
  · cases h
theorem gv_nz {x : Int32} (hz : x = 0 ∨ x = 1) : narrow .boolean (.int x) = .int x := by
  rcases hz with rfl | rfl <;> rfl
theorem gv_fok3 {ini : Bool} {o ci k : Nat} {x : Int32} (h : gv_fk ci k = 3) (hz : x = 0 ∨ x = 1) : gx_fok ini o ci k (.int x) = true := by
  unfold gv_fk at h; unfold gx_fok
  split at h
  · rename_i r hr
    rw [hr]
    split at h
    · cases h
    · rename_i hf
      split at h <;> rename_i hT <;> first | cases h | skip
      rw [hT]
      rcases hz with rfl | rfl <;> simp [narrow, fits, gx_fl, hf]
  · cases h
section GV
variable {xs : Option (List Int32)} {D j pc pc' : Nat} {E : gx_L} {st : List Value} {h h' : gx_H} {o : Outcome}
theorem gv_weak {E' : gx_L} (hs : gv_S E' E) (K : gv_V xs D j pc E' st h o h') : gv_V xs D j pc E st h o h' :=
  ⟨K.1, fun L hL => K.2 L (fun i v e => hL i v (hs i v e))⟩
theorem gv_P {E' : gx_L} {st' : List Value} {ins : Instr} (hi : gx_I j pc = some ins) (hp : ∀ L, gv_S E L → ∃ L', gx_p (gx_mo j) (gx_nl j) ins pc L st = some (pc', L', st') ∧ gv_S E' L') (K : gv_V xs D j pc' E' st' h o h') : gv_V xs D j pc E st h o h' := by
  refine ⟨K.1, fun L hL => ?_⟩
  obtain ⟨L', h1, h2⟩ := hp L hL
  obtain ⟨n, hn⟩ := K.2 L' h2
  refine ⟨n + 1, fun d hd k u => ?_⟩
  rw [gx_run]
  simp only [hi, h1]
  exact hn d hd k u
theorem gv_P0 {st' : List Value} {ins : Instr} (hi : gx_I j pc = some ins) (hp : ∀ L, gx_p (gx_mo j) (gx_nl j) ins pc L st = some (pc', L, st')) (K : gv_V xs D j pc' E st' h o h') : gv_V xs D j pc E st h o h' :=
  gv_P hi (fun L hL => ⟨L, hp L, hL⟩) K
theorem gv_Q {st' : List Value} {ins : Instr} (hi : gx_I j pc = some ins) (hp : ∀ L, gx_p (gx_mo j) (gx_nl j) ins pc L st = none) (hq : ∀ L, gx_q xs (gx_mo j) h ins pc L st = some (pc', L, st')) (K : gv_V xs D j pc' E st' h o h') : gv_V xs D j pc E st h o h' := by
  refine ⟨K.1, fun L hL => ?_⟩
  obtain ⟨n, hn⟩ := K.2 L hL
  refine ⟨n + 1, fun d hd k u => ?_⟩
  rw [gx_run]
  simp only [hi, hp, hq]
  exact hn d hd k u
theorem gv_W {st' : List Value} {ins : Instr} {h1 : gx_H} (hi : gx_I j pc = some ins) (hp : ∀ L, gx_p (gx_mo j) (gx_nl j) ins pc L st = none) (hq : ∀ L, gx_q xs (gx_mo j) h ins pc L st = none) (hw : gx_w (gx_mo j) (gx_in j) h ins pc st = some (pc', st', h1)) (hl : h1.length = h.length) (K : gv_V xs D j pc' E st' h1 o h') : gv_V xs D j pc E st h o h' := by
  refine ⟨by rw [← hl]; exact K.1, fun L hL => ?_⟩
  obtain ⟨n, hn⟩ := K.2 L hL
  refine ⟨n + 1, fun d hd k u => ?_⟩
  rw [gx_run]
  simp only [hi, hp, hq, hw]
  rw [← hl]
  exact hn d hd k u
theorem gv_B {st' : List Value} {ins : Instr} {h1 : gx_H} (hi : gx_I j pc = some ins) (hp : ∀ L, gx_p (gx_mo j) (gx_nl j) ins pc L st = none) (hq : ∀ L, gx_q xs (gx_mo j) h ins pc L st = none) (hw : gx_w (gx_mo j) (gx_in j) h ins pc st = none) (hn : gx_n (gx_mo j) h ins pc st = none) (hm : gx_mu (gx_mo j) h ins pc st = none) (he : gx_e j ins st = none)
    (hb : gx_bi (gx_mo j) h ins pc st = some (pc', st', h1)) (hl : h1.length = h.length) (K : gv_V xs D j pc' E st' h1 o h') : gv_V xs D j pc E st h o h' := by
  refine ⟨by rw [← hl]; exact K.1, fun L hL => ?_⟩
  obtain ⟨n, hn'⟩ := K.2 L hL
  refine ⟨n + 1, fun d hd k u => ?_⟩
  rw [gx_run]
  simp only [hi, hp, hq, hw, hn, hm, he, hb]
  rw [← hl]
  exact hn' d hd k u
theorem gv_E {ins : Instr} {v : Option Value} (hi : gx_I j pc = some ins) (hp : ∀ L, gx_p (gx_mo j) (gx_nl j) ins pc L st = none) (hq : ∀ L, gx_q xs (gx_mo j) h ins pc L st = none) (hw : gx_w (gx_mo j) (gx_in j) h ins pc st = none) (hn : gx_n (gx_mo j) h ins pc st = none) (hm : gx_mu (gx_mo j) h ins pc st = none) (he : gx_e j ins st = some v) : gv_V xs D j pc E st h (.returned v) h := by
  refine ⟨Nat.le_refl _, fun L hL => ⟨1, fun d hd k u => ?_⟩⟩
  rw [gx_run]
  simp only [hi, hp, hq, hw, hn, hm, he]
  simp
theorem gv_th {ins : Instr} {t : Nat} (hi : gx_I j pc = some ins) (hp : ∀ L, gx_p (gx_mo j) (gx_nl j) ins pc L st = none) (hq : ∀ L, gx_q xs (gx_mo j) h ins pc L st = none) (hw : gx_w (gx_mo j) (gx_in j) h ins pc st = none) (hn : gx_n (gx_mo j) h ins pc st = none) (hm : gx_mu (gx_mo j) h ins pc st = none) (he : gx_e j ins st = none) (hb : gx_bi (gx_mo j) h ins pc st = none) (ht : gx_th j pc ins st = some t) : gv_V xs D j pc E st h (.threw h.length) (h ++ [(t, [])]) := by
  refine ⟨by simp, fun L hL => ⟨1, fun d hd k u => ?_⟩⟩
  rw [gx_run]
  simp only [hi, hp, hq, hw, hn, hm, he, hb, ht]
  simp
/-- a call that returns -/
theorem gv_call {ins : Instr} {Dc jc : Nat} {A rest : List Value} {Ec : gx_L} {v : Option Value} {h1 : gx_H} {sz : Nat} (hi : gx_I j pc = some ins) (hp : ∀ L, gx_p (gx_mo j) (gx_nl j) ins pc L st = none) (hq : ∀ L, gx_q xs (gx_mo j) h ins pc L st = none) (hw : gx_w (gx_mo j) (gx_in j) h ins pc st = none) (hn : gx_n (gx_mo j) h ins pc st = none) (hm : gx_mu (gx_mo j) h ins pc st = none) (he : gx_e j ins st = none) (hb : gx_bi (gx_mo j) h ins pc st = none) (ht : gx_th j pc ins st = none)
    (hc : gx_c (gx_mo j) h ins st = some (jc, A, rest)) (hr : Nat.ble rest.length 4 = true) (hz : gv_z A sz) (hz2 : Nat.ble sz (gx_nl jc) = true) (hA : gv_a 0 A Ec) (hD : Dc + 1 ≤ D)
    (C : gv_V xs Dc jc 0 Ec [] h (.returned v) h1) (K : gv_V xs D j (pc + 3) E (v.toList ++ rest) h1 o h') : gv_V xs D j pc E st h o h' := by
  refine ⟨Nat.le_trans C.1 K.1, fun L hL => ?_⟩
  obtain ⟨n1, hn1⟩ := C.2 (lv_args 0 A) (by unfold gv_a at hA; rw [hA]; exact gv_Sr)
  obtain ⟨n2, hn2⟩ := K.2 L hL
  refine ⟨max n1 n2 + 1, fun d hd k u => ?_⟩
  obtain ⟨d, rfl⟩ : ∃ m, d = m + 1 := ⟨d - 1, by omega⟩
  have e1 := gv_up xs (Or.inl rfl) _ (max n1 n2) _ d _ _ _ _ _ _ _ _ (Nat.le_max_left _ _) (Nat.le_refl _) (hn1 d (by omega) 0 0)
  have e2 := gv_up xs (Or.inl rfl) _ (max n1 n2) _ (d + 1) _ _ _ _ _ _ _ _ (Nat.le_max_right n1 n2) (Nat.le_refl _) (hn2 (d + 1) hd (k + (0 + (h1.length - h.length))) (u + (0 + 6 * (h1.length - h.length))))
  rw [gx_run]
  simp only [hi, hp, hq, hw, hn, hm, he, hb, ht, hc]
  rw [if_pos ⟨gv_sum rest hr, by unfold gv_z at hz; rw [hz]; exact Nat.le_of_ble_eq_true hz2⟩]
  simp only [e1, e2]
  have := C.1
  have := K.1
  congr 4
  · omega
  · omega
/-- a call that throws, and no handler lies there -/
theorem gv_callX {ins : Instr} {Dc jc : Nat} {A rest : List Value} {Ec : gx_L} {x : Nat} {h1 : gx_H} {sz : Nat} (hi : gx_I j pc = some ins) (hp : ∀ L, gx_p (gx_mo j) (gx_nl j) ins pc L st = none) (hq : ∀ L, gx_q xs (gx_mo j) h ins pc L st = none) (hw : gx_w (gx_mo j) (gx_in j) h ins pc st = none) (hn : gx_n (gx_mo j) h ins pc st = none) (hm : gx_mu (gx_mo j) h ins pc st = none) (he : gx_e j ins st = none) (hb : gx_bi (gx_mo j) h ins pc st = none) (ht : gx_th j pc ins st = none)
    (hc : gx_c (gx_mo j) h ins st = some (jc, A, rest)) (hr : Nat.ble rest.length 4 = true) (hz : gv_z A sz) (hz2 : Nat.ble sz (gx_nl jc) = true) (hA : gv_a 0 A Ec) (hD : Dc + 1 ≤ D)
    (C : gv_V xs Dc jc 0 Ec [] h (.threw x) h1) (hx : gx_hd j = []) : gv_V xs D j pc E st h (.threw x) h1 := by
  refine ⟨C.1, fun L hL => ?_⟩
  obtain ⟨n1, hn1⟩ := C.2 (lv_args 0 A) (by unfold gv_a at hA; rw [hA]; exact gv_Sr)
  refine ⟨n1 + 1, fun d hd k u => ?_⟩
  obtain ⟨d, rfl⟩ : ∃ m, d = m + 1 := ⟨d - 1, by omega⟩
  have e1 := hn1 d (by omega) 0 0
  rw [gx_run]
  simp only [hi, hp, hq, hw, hn, hm, he, hb, ht, hc]
  rw [if_pos ⟨gv_sum rest hr, by unfold gv_z at hz; rw [hz]; exact Nat.le_of_ble_eq_true hz2⟩]
  have hcat : gx_cat j pc h1 x = some none := by unfold gx_cat; rw [hx]; rfl
  simp only [e1, hcat]
  congr 4 <;> omega
/-- a call that throws what the first handler there catches -/
theorem gv_callC {ins : Instr} {Dc jc : Nat} {A rest : List Value} {Ec : gx_L} {x : Nat} {h1 : gx_H} {sz : Nat} (hi : gx_I j pc = some ins) (hp : ∀ L, gx_p (gx_mo j) (gx_nl j) ins pc L st = none) (hq : ∀ L, gx_q xs (gx_mo j) h ins pc L st = none) (hw : gx_w (gx_mo j) (gx_in j) h ins pc st = none) (hn : gx_n (gx_mo j) h ins pc st = none) (hm : gx_mu (gx_mo j) h ins pc st = none) (he : gx_e j ins st = none) (hb : gx_bi (gx_mo j) h ins pc st = none) (ht : gx_th j pc ins st = none)
    (hc : gx_c (gx_mo j) h ins st = some (jc, A, rest)) (hr : Nat.ble rest.length 4 = true) (hz : gv_z A sz) (hz2 : Nat.ble sz (gx_nl jc) = true) (hA : gv_a 0 A Ec) (hD : Dc + 1 ≤ D)
    (C : gv_V xs Dc jc 0 Ec [] h (.threw x) h1) (hx : gx_cat j pc h1 x = some (some pc')) (K : gv_V xs D j pc' E [gv_u (some x)] h1 o h') : gv_V xs D j pc E st h o h' := by
  refine ⟨Nat.le_trans C.1 K.1, fun L hL => ?_⟩
  obtain ⟨n1, hn1⟩ := C.2 (lv_args 0 A) (by unfold gv_a at hA; rw [hA]; exact gv_Sr)
  obtain ⟨n2, hn2⟩ := K.2 L hL
  refine ⟨max n1 n2 + 1, fun d hd k u => ?_⟩
  obtain ⟨d, rfl⟩ : ∃ m, d = m + 1 := ⟨d - 1, by omega⟩
  have e1 := gv_up xs (Or.inl rfl) _ (max n1 n2) _ d _ _ _ _ _ _ _ _ (Nat.le_max_left _ _) (Nat.le_refl _) (hn1 d (by omega) 0 0)
  have e2 := gv_up xs (Or.inl rfl) _ (max n1 n2) _ (d + 1) _ _ _ _ _ _ _ _ (Nat.le_max_right n1 n2) (Nat.le_refl _) (hn2 (d + 1) hd (k + (0 + (h1.length - h.length))) (u + (0 + 6 * (h1.length - h.length))))
  rw [gx_run]
  simp only [hi, hp, hq, hw, hn, hm, he, hb, ht, hc]
  rw [if_pos ⟨gv_sum rest hr, by unfold gv_z at hz; rw [hz]; exact Nat.le_of_ble_eq_true hz2⟩]
  simp only [e1, hx]
  change gx_run xs (max n1 n2) (d + 1) j pc' L [.ref x] h1 _ _ = _
  change gx_run xs (max n1 n2) (d + 1) j pc' L [.ref x] h1 _ _ = _ at e2
  rw [e2]
  have := C.1
  have := K.1
  congr 4
  · omega
  · omega
theorem gv_null (hi : gx_I j pc = some .aconst_null) (hc : pc + 1 = pc') (K : gv_V xs D j pc' E (gv_u none :: st) h o h') : gv_V xs D j pc E st h o h' := gv_P0 hi (fun _ => by rw [← hc]; rfl) K
theorem gv_ic {n : Int} {x : Int32} (hi : gx_I j pc = some (.iconst n)) (hx : Int32.ofInt n = x) (hc : pc + 1 = pc') (K : gv_V xs D j pc' E (.int x :: st) h o h') : gv_V xs D j pc E st h o h' := gv_P0 hi (fun _ => by rw [← hc, ← hx]; rfl) K
theorem gv_bp {n : Int} {x : Int32} (hi : gx_I j pc = some (.bipush n)) (hx : (Int8.ofInt n).toInt32 = x) (hc : pc + 2 = pc') (K : gv_V xs D j pc' E (.int x :: st) h o h') : gv_V xs D j pc E st h o h' := gv_P0 hi (fun _ => by rw [← hc, ← hx]; rfl) K
theorem gv_sp {n : Int} {x : Int32} (hi : gx_I j pc = some (.sipush n)) (hx : (Int16.ofInt n).toInt32 = x) (hc : pc + 3 = pc') (K : gv_V xs D j pc' E (.int x :: st) h o h') : gv_V xs D j pc E st h o h' := gv_P0 hi (fun _ => by rw [← hc, ← hx]; rfl) K
theorem gv_lc {n : Fin 2} {x : Int64} (hi : gx_I j pc = some (.lconst n)) (hx : Int64.ofNat (n : Nat) = x) (hc : pc + 1 = pc') (K : gv_V xs D j pc' E (.long x :: st) h o h') : gv_V xs D j pc E st h o h' := gv_P0 hi (fun _ => by rw [← hc, ← hx]; rfl) K
theorem gv_ld {idx : Nat} {x : Int64} (hi : gx_I j pc = some (.ldc2_w idx)) (hx : gx_kl (gx_mo j) idx = some x) (hc : pc + 3 = pc') (K : gv_V xs D j pc' E (.long x :: st) h o h') : gv_V xs D j pc E st h o h' := gv_P0 hi (fun _ => by rw [← hc]; show (gx_kl _ _).map _ = _; rw [hx]; rfl) K
theorem gv_ild {i : Nat} {x : Int32} (hi : gx_I j pc = some (.iload i)) (hv : E.lookup i = some (.int x)) (hc : pc + 2 = pc') (K : gv_V xs D j pc' E (.int x :: st) h o h') : gv_V xs D j pc E st h o h' := gv_P hi (fun L hL => ⟨L, by rw [← hc]; show ((L.lookup i).bind _).map _ = _; rw [hL _ _ hv]; rfl, hL⟩) K
theorem gv_ildn {i : Fin 4} {x : Int32} (hi : gx_I j pc = some (.iload_n i)) (hv : E.lookup (i : Nat) = some (.int x)) (hc : pc + 1 = pc') (K : gv_V xs D j pc' E (.int x :: st) h o h') : gv_V xs D j pc E st h o h' := gv_P hi (fun L hL => ⟨L, by rw [← hc]; show ((L.lookup (i : Nat)).bind _).map _ = _; rw [hL _ _ hv]; rfl, hL⟩) K
theorem gv_jld {i : Nat} {x : Int64} (hi : gx_I j pc = some (.lload i)) (hv : E.lookup i = some (.long x)) (hc : pc + 2 = pc') (K : gv_V xs D j pc' E (.long x :: st) h o h') : gv_V xs D j pc E st h o h' := gv_P hi (fun L hL => ⟨L, by rw [← hc]; show ((L.lookup i).bind _).map _ = _; rw [hL _ _ hv]; rfl, hL⟩) K
theorem gv_jldn {i : Fin 4} {x : Int64} (hi : gx_I j pc = some (.lload_n i)) (hv : E.lookup (i : Nat) = some (.long x)) (hc : pc + 1 = pc') (K : gv_V xs D j pc' E (.long x :: st) h o h') : gv_V xs D j pc E st h o h' := gv_P hi (fun L hL => ⟨L, by rw [← hc]; show ((L.lookup (i : Nat)).bind _).map _ = _; rw [hL _ _ hv]; rfl, hL⟩) K
theorem gv_rld {i : Nat} {x : Option Nat} (hi : gx_I j pc = some (.aload i)) (hv : E.lookup i = some (gv_u x)) (hc : pc + 2 = pc') (K : gv_V xs D j pc' E (gv_u x :: st) h o h') : gv_V xs D j pc E st h o h' := gv_P hi (fun L hL => ⟨L, by rw [← hc]; show (L.lookup i).bind _ = _; rw [hL _ _ hv, Option.bind_some, gv_u_ref]; rfl, hL⟩) K
theorem gv_rldn {i : Fin 4} {x : Option Nat} (hi : gx_I j pc = some (.aload_n i)) (hv : E.lookup (i : Nat) = some (gv_u x)) (hc : pc + 1 = pc') (K : gv_V xs D j pc' E (gv_u x :: st) h o h') : gv_V xs D j pc E st h o h' := gv_P hi (fun L hL => ⟨L, by rw [← hc]; show (L.lookup (i : Nat)).bind _ = _; rw [hL _ _ hv, Option.bind_some, gv_u_ref]; rfl, hL⟩) K
theorem gv_xld {x : UInt32} {i : Fin 4} (hi : gx_I j pc = some (.aload_n i)) (hv : E.lookup (i : Nat) = some (.float x)) (hc : pc + 1 = pc') (K : gv_V xs D j pc' E (.float x :: st) h o h') : gv_V xs D j pc E st h o h' := gv_P hi (fun L hL => ⟨L, by rw [← hc]; show (L.lookup (i : Nat)).bind _ = _; rw [hL _ _ hv]; rfl, hL⟩) K
theorem gv_ist {i : Nat} {x : Int32} (hi : gx_I j pc = some (.istore i)) (hn : Nat.blt i (gx_nl j) = true) (hg : gv_C E i) (hc : pc + 2 = pc') (K : gv_V xs D j pc' ((i, .int x) :: E) st h o h') : gv_V xs D j pc E (.int x :: st) h o h' := gv_P hi (fun L hL => ⟨gx_s1 L i (.int x), by rw [← hc]; show (if _ then _ else _) = _; rw [if_pos (gv_lt hn)], gv_S_s1 hL hg⟩) K
theorem gv_istn {i : Fin 4} {x : Int32} (hi : gx_I j pc = some (.istore_n i)) (hn : Nat.blt (i : Nat) (gx_nl j) = true) (hg : gv_C E (i : Nat)) (hc : pc + 1 = pc') (K : gv_V xs D j pc' (((i : Nat), .int x) :: E) st h o h') : gv_V xs D j pc E (.int x :: st) h o h' := gv_P hi (fun L hL => ⟨gx_s1 L (i : Nat) (.int x), by rw [← hc]; show (if _ then _ else _) = _; rw [if_pos (gv_lt hn)], gv_S_s1 hL hg⟩) K
theorem gv_jst {i : Nat} {x : Int64} (hi : gx_I j pc = some (.lstore i)) (hn : Nat.blt (i + 1) (gx_nl j) = true) (hg : gv_C E i) (hg2 : E.lookup (i + 1) = none) (hc : pc + 2 = pc') (K : gv_V xs D j pc' ((i, .long x) :: E) st h o h') : gv_V xs D j pc E (.long x :: st) h o h' := gv_P hi (fun L hL => ⟨gx_s2 L i (.long x), by rw [← hc]; show (if _ then _ else _) = _; rw [if_pos (gv_lt hn)], gv_S_s2 hL hg hg2⟩) K
theorem gv_jstn {i : Fin 4} {x : Int64} (hi : gx_I j pc = some (.lstore_n i)) (hn : Nat.blt ((i : Nat) + 1) (gx_nl j) = true) (hg : gv_C E (i : Nat)) (hg2 : E.lookup ((i : Nat) + 1) = none) (hc : pc + 1 = pc') (K : gv_V xs D j pc' (((i : Nat), .long x) :: E) st h o h') : gv_V xs D j pc E (.long x :: st) h o h' := gv_P hi (fun L hL => ⟨gx_s2 L (i : Nat) (.long x), by rw [← hc]; show (if _ then _ else _) = _; rw [if_pos (gv_lt hn)], gv_S_s2 hL hg hg2⟩) K
theorem gv_rst {i : Nat} {x : Option Nat} (hi : gx_I j pc = some (.astore i)) (hn : Nat.blt i (gx_nl j) = true) (hg : gv_C E i) (hc : pc + 2 = pc') (K : gv_V xs D j pc' ((i, gv_u x) :: E) st h o h') : gv_V xs D j pc E (gv_u x :: st) h o h' := gv_P hi (fun L hL => ⟨gx_s1 L i (gv_u x), by rw [← hc]; cases x <;> (show (if _ then _ else _) = _; rw [if_pos (gv_lt hn)]; rfl), gv_S_s1 hL hg⟩) K
theorem gv_rstn {i : Fin 4} {x : Option Nat} (hi : gx_I j pc = some (.astore_n i)) (hn : Nat.blt (i : Nat) (gx_nl j) = true) (hg : gv_C E (i : Nat)) (hc : pc + 1 = pc') (K : gv_V xs D j pc' (((i : Nat), gv_u x) :: E) st h o h') : gv_V xs D j pc E (gv_u x :: st) h o h' := gv_P hi (fun L hL => ⟨gx_s1 L (i : Nat) (gv_u x), by rw [← hc]; cases x <;> (show (if _ then _ else _) = _; rw [if_pos (gv_lt hn)]; rfl), gv_S_s1 hL hg⟩) K
theorem gv_inc {i : Nat} {n : Int} {x y : Int32} (hi : gx_I j pc = some (.iinc i n)) (hv : E.lookup i = some (.int x)) (hy : Int32.ofInt n = y) (hn : Nat.blt i (gx_nl j) = true) (hg : gv_C E i) (hc : pc + 3 = pc') (K : gv_V xs D j pc' ((i, .int (x + y)) :: E) st h o h') : gv_V xs D j pc E st h o h' := gv_P hi (fun L hL => ⟨gx_s1 L i (.int (x + y)), by rw [← hc, ← hy]; show ((L.lookup i).bind _).bind _ = _; rw [hL _ _ hv]; show (if _ then _ else _) = _; rw [if_pos (gv_lt hn)], gv_S_s1 hL hg⟩) K
theorem gv_iadd {x y : Int32} (hi : gx_I j pc = some .iadd) (hc : pc + 1 = pc') (K : gv_V xs D j pc' E (.int (x + y) :: st) h o h') : gv_V xs D j pc E (.int y :: .int x :: st) h o h' := gv_P0 hi (fun _ => by rw [← hc]; rfl) K
theorem gv_isub {x y : Int32} (hi : gx_I j pc = some .isub) (hc : pc + 1 = pc') (K : gv_V xs D j pc' E (.int (x - y) :: st) h o h') : gv_V xs D j pc E (.int y :: .int x :: st) h o h' := gv_P0 hi (fun _ => by rw [← hc]; rfl) K
theorem gv_imul {x y : Int32} (hi : gx_I j pc = some .imul) (hc : pc + 1 = pc') (K : gv_V xs D j pc' E (.int (x * y) :: st) h o h') : gv_V xs D j pc E (.int y :: .int x :: st) h o h' := gv_P0 hi (fun _ => by rw [← hc]; rfl) K
theorem gv_iand {x y : Int32} (hi : gx_I j pc = some .iand) (hc : pc + 1 = pc') (K : gv_V xs D j pc' E (.int (x &&& y) :: st) h o h') : gv_V xs D j pc E (.int y :: .int x :: st) h o h' := gv_P0 hi (fun _ => by rw [← hc]; rfl) K
theorem gv_ior {x y : Int32} (hi : gx_I j pc = some .ior) (hc : pc + 1 = pc') (K : gv_V xs D j pc' E (.int (x ||| y) :: st) h o h') : gv_V xs D j pc E (.int y :: .int x :: st) h o h' := gv_P0 hi (fun _ => by rw [← hc]; rfl) K
theorem gv_ixor {x y : Int32} (hi : gx_I j pc = some .ixor) (hc : pc + 1 = pc') (K : gv_V xs D j pc' E (.int (x ^^^ y) :: st) h o h') : gv_V xs D j pc E (.int y :: .int x :: st) h o h' := gv_P0 hi (fun _ => by rw [← hc]; rfl) K
theorem gv_ishl {x y : Int32} (hi : gx_I j pc = some .ishl) (hc : pc + 1 = pc') (K : gv_V xs D j pc' E (.int (x <<< (y &&& 31)) :: st) h o h') : gv_V xs D j pc E (.int y :: .int x :: st) h o h' := gv_P0 hi (fun _ => by rw [← hc]; rfl) K
theorem gv_ishr {x y : Int32} (hi : gx_I j pc = some .ishr) (hc : pc + 1 = pc') (K : gv_V xs D j pc' E (.int (x >>> (y &&& 31)) :: st) h o h') : gv_V xs D j pc E (.int y :: .int x :: st) h o h' := gv_P0 hi (fun _ => by rw [← hc]; rfl) K
theorem gv_ladd {x y : Int64} (hi : gx_I j pc = some .ladd) (hc : pc + 1 = pc') (K : gv_V xs D j pc' E (.long (x + y) :: st) h o h') : gv_V xs D j pc E (.long y :: .long x :: st) h o h' := gv_P0 hi (fun _ => by rw [← hc]; rfl) K
theorem gv_lsub {x y : Int64} (hi : gx_I j pc = some .lsub) (hc : pc + 1 = pc') (K : gv_V xs D j pc' E (.long (x - y) :: st) h o h') : gv_V xs D j pc E (.long y :: .long x :: st) h o h' := gv_P0 hi (fun _ => by rw [← hc]; rfl) K
theorem gv_lmul {x y : Int64} (hi : gx_I j pc = some .lmul) (hc : pc + 1 = pc') (K : gv_V xs D j pc' E (.long (x * y) :: st) h o h') : gv_V xs D j pc E (.long y :: .long x :: st) h o h' := gv_P0 hi (fun _ => by rw [← hc]; rfl) K
theorem gv_land {x y : Int64} (hi : gx_I j pc = some .land) (hc : pc + 1 = pc') (K : gv_V xs D j pc' E (.long (x &&& y) :: st) h o h') : gv_V xs D j pc E (.long y :: .long x :: st) h o h' := gv_P0 hi (fun _ => by rw [← hc]; rfl) K
theorem gv_lor {x y : Int64} (hi : gx_I j pc = some .lor) (hc : pc + 1 = pc') (K : gv_V xs D j pc' E (.long (x ||| y) :: st) h o h') : gv_V xs D j pc E (.long y :: .long x :: st) h o h' := gv_P0 hi (fun _ => by rw [← hc]; rfl) K
theorem gv_lxor {x y : Int64} (hi : gx_I j pc = some .lxor) (hc : pc + 1 = pc') (K : gv_V xs D j pc' E (.long (x ^^^ y) :: st) h o h') : gv_V xs D j pc E (.long y :: .long x :: st) h o h' := gv_P0 hi (fun _ => by rw [← hc]; rfl) K
theorem gv_lshl {x : Int64} {y : Int32} (hi : gx_I j pc = some .lshl) (hc : pc + 1 = pc') (K : gv_V xs D j pc' E (.long (x <<< (y.toInt64 &&& 63)) :: st) h o h') : gv_V xs D j pc E (.int y :: .long x :: st) h o h' := gv_P0 hi (fun _ => by rw [← hc]; rfl) K
theorem gv_lshr {x : Int64} {y : Int32} (hi : gx_I j pc = some .lshr) (hc : pc + 1 = pc') (K : gv_V xs D j pc' E (.long (x >>> (y.toInt64 &&& 63)) :: st) h o h') : gv_V xs D j pc E (.int y :: .long x :: st) h o h' := gv_P0 hi (fun _ => by rw [← hc]; rfl) K
theorem gv_lushr {x : Int64} {y : Int32} (hi : gx_I j pc = some .lushr) (hc : pc + 1 = pc') (K : gv_V xs D j pc' E (.long ((x.toUInt64 >>> (y.toInt64.toUInt64 &&& Int64.toUInt64 63)).toInt64) :: st) h o h') : gv_V xs D j pc E (.int y :: .long x :: st) h o h' := gv_P0 hi (fun _ => by rw [← hc]; rfl) K
theorem gv_idiv {x y : Int32} (hi : gx_I j pc = some .idiv) (hy : ¬ y = 0) (hc : pc + 1 = pc') (K : gv_V xs D j pc' E (.int (x / y) :: st) h o h') : gv_V xs D j pc E (.int y :: .int x :: st) h o h' := gv_P0 hi (fun _ => by rw [← hc]; show (if _ then _ else _) = _; rw [if_neg hy]) K
theorem gv_irem {x y : Int32} (hi : gx_I j pc = some .irem) (hy : ¬ y = 0) (hc : pc + 1 = pc') (K : gv_V xs D j pc' E (.int (x - x / y * y) :: st) h o h') : gv_V xs D j pc E (.int y :: .int x :: st) h o h' := gv_P0 hi (fun _ => by rw [← hc]; show (if _ then _ else _) = _; rw [if_neg hy]) K
theorem gv_ineg {x : Int32} (hi : gx_I j pc = some .ineg) (hc : pc + 1 = pc') (K : gv_V xs D j pc' E (.int (-x) :: st) h o h') : gv_V xs D j pc E (.int x :: st) h o h' := gv_P0 hi (fun _ => by rw [← hc]; rfl) K
theorem gv_lneg {x : Int64} (hi : gx_I j pc = some .lneg) (hc : pc + 1 = pc') (K : gv_V xs D j pc' E (.long (-x) :: st) h o h') : gv_V xs D j pc E (.long x :: st) h o h' := gv_P0 hi (fun _ => by rw [← hc]; rfl) K
theorem gv_i2l {x : Int32} (hi : gx_I j pc = some .i2l) (hc : pc + 1 = pc') (K : gv_V xs D j pc' E (.long x.toInt64 :: st) h o h') : gv_V xs D j pc E (.int x :: st) h o h' := gv_P0 hi (fun _ => by rw [← hc]; rfl) K
theorem gv_l2i {x : Int64} (hi : gx_I j pc = some .l2i) (hc : pc + 1 = pc') (K : gv_V xs D j pc' E (.int x.toInt32 :: st) h o h') : gv_V xs D j pc E (.long x :: st) h o h' := gv_P0 hi (fun _ => by rw [← hc]; rfl) K
theorem gv_lcmp {x y : Int64} (hi : gx_I j pc = some .lcmp) (hc : pc + 1 = pc') (K : gv_V xs D j pc' E (.int (lg_cmp x y) :: st) h o h') : gv_V xs D j pc E (.long y :: .long x :: st) h o h' := gv_P0 hi (fun _ => by rw [← hc]; rfl) K
theorem gv_dup {v : Value} (hi : gx_I j pc = some .dup) (hv : v.category = 1) (hc : pc + 1 = pc') (K : gv_V xs D j pc' E (v :: v :: st) h o h') : gv_V xs D j pc E (v :: st) h o h' := gv_P0 hi (fun _ => by rw [← hc]; show (if _ then _ else _) = _; rw [if_pos hv]) K
theorem gv_pop {v : Value} (hi : gx_I j pc = some .pop) (hv : v.category = 1) (hc : pc + 1 = pc') (K : gv_V xs D j pc' E st h o h') : gv_V xs D j pc E (v :: st) h o h' := gv_P0 hi (fun _ => by rw [← hc]; show (if _ then _ else _) = _; rw [if_pos hv]) K
theorem gv_dup2 {v w : Value} (hi : gx_I j pc = some .dup2) (hv : v.category = 1) (hw : w.category = 1) (hc : pc + 1 = pc') (K : gv_V xs D j pc' E (v :: w :: v :: w :: st) h o h') : gv_V xs D j pc E (v :: w :: st) h o h' := gv_P0 hi (fun _ => by rw [← hc]; show (if _ then _ else _) = _; rw [if_pos ⟨hv, hw⟩]) K
theorem gv_goto {off : Int} (hi : gx_I j pc = some (.goto off)) (hc : gx_j pc off = some pc') (K : gv_V xs D j pc' E st h o h') : gv_V xs D j pc E st h o h' := gv_P0 hi (fun _ => by show (gx_j _ _).map _ = _; rw [hc]; rfl) K
theorem gv_ifT {c : ClassFile.Cond} {off : Int} {x : Int32} (hi : gx_I j pc = some (.ifCond c off)) (hx : gx_c1 c x = true) (hc : gx_j pc off = some pc') (K : gv_V xs D j pc' E st h o h') : gv_V xs D j pc E (.int x :: st) h o h' := gv_P0 hi (fun _ => by show (gx_j _ _).map _ = _; rw [hc]; show some (if gx_c1 c x = true then _ else _) = _; rw [if_pos hx]) K
theorem gv_ifF {c : ClassFile.Cond} {off : Int} {x : Int32} {t : Nat} (hi : gx_I j pc = some (.ifCond c off)) (hx : gx_c1 c x = false) (ht : gx_j pc off = some t) (hc : pc + 3 = pc') (K : gv_V xs D j pc' E st h o h') : gv_V xs D j pc E (.int x :: st) h o h' := gv_P0 hi (fun _ => by show (gx_j _ _).map _ = _; rw [ht, ← hc]; show some (if gx_c1 c x = true then _ else _) = _; rw [if_neg (by rw [hx]; exact Bool.false_ne_true)]) K
theorem gv_cmT {c : ClassFile.Cond} {off : Int} {x y : Int32} (hi : gx_I j pc = some (.if_icmp c off)) (hx : gx_c2 c x y = true) (hc : gx_j pc off = some pc') (K : gv_V xs D j pc' E st h o h') : gv_V xs D j pc E (.int y :: .int x :: st) h o h' := gv_P0 hi (fun _ => by show (gx_j _ _).map _ = _; rw [hc]; show some (if gx_c2 c x y = true then _ else _) = _; rw [if_pos hx]) K
theorem gv_cmF {c : ClassFile.Cond} {off : Int} {x y : Int32} {t : Nat} (hi : gx_I j pc = some (.if_icmp c off)) (hx : gx_c2 c x y = false) (ht : gx_j pc off = some t) (hc : pc + 3 = pc') (K : gv_V xs D j pc' E st h o h') : gv_V xs D j pc E (.int y :: .int x :: st) h o h' := gv_P0 hi (fun _ => by show (gx_j _ _).map _ = _; rw [ht, ← hc]; show some (if gx_c2 c x y = true then _ else _) = _; rw [if_neg (by rw [hx]; exact Bool.false_ne_true)]) K
theorem gv_nuT {off : Int} {x : Option Nat} (hi : gx_I j pc = some (.ifnull off)) (hx : x = none) (hc : gx_j pc off = some pc') (K : gv_V xs D j pc' E st h o h') : gv_V xs D j pc E (gv_u x :: st) h o h' := gv_P0 hi (fun _ => by rw [hx]; show (gx_j _ _).map _ = _; rw [hc]; rfl) K
theorem gv_nuF {off : Int} {x : Option Nat} (hi : gx_I j pc = some (.ifnull off)) (hx : ¬ x = none) (hc : pc + 3 = pc') (K : gv_V xs D j pc' E st h o h') : gv_V xs D j pc E (gv_u x :: st) h o h' := gv_P0 hi (fun _ => by cases x with | none => exact absurd rfl hx | some a => rw [← hc]; rfl) K
theorem gv_nnT {off : Int} {x : Option Nat} (hi : gx_I j pc = some (.ifnonnull off)) (hx : ¬ x = none) (hc : gx_j pc off = some pc') (K : gv_V xs D j pc' E st h o h') : gv_V xs D j pc E (gv_u x :: st) h o h' := gv_P0 hi (fun _ => by cases x with | none => exact absurd rfl hx | some a => show (gx_j _ _).map _ = _; rw [hc]; rfl) K
theorem gv_nnF {off : Int} {x : Option Nat} (hi : gx_I j pc = some (.ifnonnull off)) (hx : x = none) (hc : pc + 3 = pc') (K : gv_V xs D j pc' E st h o h') : gv_V xs D j pc E (gv_u x :: st) h o h' := gv_P0 hi (fun _ => by rw [hx, ← hc]; rfl) K
theorem gv_sw {d lo hi' : Int} {offs : Array Int} {x : Int32} {off : Int} (hi : gx_I j pc = some (.tableswitch d lo hi' offs)) (hx : gx_tab d lo hi' offs x = some off) (hc : gx_j pc off = some pc') (K : gv_V xs D j pc' E st h o h') : gv_V xs D j pc E (.int x :: st) h o h' := gv_P0 hi (fun _ => by show (gx_tab _ _ _ _ _).bind _ = _; rw [hx]; show (gx_j _ _).map _ = _; rw [hc]; rfl) K
theorem gv_fI {idx c i : Nat} {x : Option Nat} {v : Int32} (hi : gx_I j pc = some (.getfield idx)) (hf : gx_F (gx_mo j) idx = some (c, i)) (hv : gv_gI h x c i = some v) (hc : pc + 3 = pc') (K : gv_V xs D j pc' E (.int v :: st) h o h') : gv_V xs D j pc E (gv_u x :: st) h o h' := by
  unfold gv_gI gv_gV at hv
  obtain ⟨w, hw, hv1⟩ := Option.bind_eq_some_iff.mp hv
  clear hv
  obtain ⟨a, rfl, hw1⟩ := Option.bind_eq_some_iff.mp hw
  obtain ⟨fs, h1, h2⟩ := Option.bind_eq_some_iff.mp hw1
  have := gx_i1_e hv1
  subst this
  refine gv_Q hi (fun _ => rfl) (fun L => ?_) K
  show (gx_F _ _).bind _ = _
  rw [hf]
  show (gx_ob h a c).bind _ = _
  rw [h1]
  show (fs[i]?).map _ = _
  rw [h2, ← hc]
  rfl
theorem gv_fJ {idx c i : Nat} {x : Option Nat} {v : Int64} (hi : gx_I j pc = some (.getfield idx)) (hf : gx_F (gx_mo j) idx = some (c, i)) (hv : gv_gJ h x c i = some v) (hc : pc + 3 = pc') (K : gv_V xs D j pc' E (.long v :: st) h o h') : gv_V xs D j pc E (gv_u x :: st) h o h' := by
  unfold gv_gJ gv_gV at hv
  obtain ⟨w, hw, hv1⟩ := Option.bind_eq_some_iff.mp hv
  clear hv
  obtain ⟨a, rfl, hw1⟩ := Option.bind_eq_some_iff.mp hw
  obtain ⟨fs, h1, h2⟩ := Option.bind_eq_some_iff.mp hw1
  have := gx_l1_e hv1
  subst this
  refine gv_Q hi (fun _ => rfl) (fun L => ?_) K
  show (gx_F _ _).bind _ = _
  rw [hf]
  show (gx_ob h a c).bind _ = _
  rw [h1]
  show (fs[i]?).map _ = _
  rw [h2, ← hc]
  rfl
theorem gv_fR {idx c i : Nat} {x : Option Nat} {v : Option Nat} (hi : gx_I j pc = some (.getfield idx)) (hf : gx_F (gx_mo j) idx = some (c, i)) (hv : gv_gR h x c i = some v) (hc : pc + 3 = pc') (K : gv_V xs D j pc' E (gv_u v :: st) h o h') : gv_V xs D j pc E (gv_u x :: st) h o h' := by
  unfold gv_gR gv_gV at hv
  obtain ⟨w, hw, hv1⟩ := Option.bind_eq_some_iff.mp hv
  clear hv
  obtain ⟨a, rfl, hw1⟩ := Option.bind_eq_some_iff.mp hw
  obtain ⟨fs, h1, h2⟩ := Option.bind_eq_some_iff.mp hw1
  have := gv_r_e hv1
  subst this
  refine gv_Q hi (fun _ => rfl) (fun L => ?_) K
  show (gx_F _ _).bind _ = _
  rw [hf]
  show (gx_ob h a c).bind _ = _
  rw [h1]
  show (fs[i]?).map _ = _
  rw [h2, ← hc]
  rfl
theorem gv_iald {x : Option Nat} {i : Int32} {v : Int32} (hi : gx_I j pc = some .iaload) (hv : gv_lI h x i = some v) (hc : pc + 1 = pc') (K : gv_V xs D j pc' E (.int v :: st) h o h') : gv_V xs D j pc E (.int i :: gv_u x :: st) h o h' := by
  unfold gv_lI at hv
  obtain ⟨a, hxa, hv1⟩ := Option.bind_eq_some_iff.mp hv
  clear hv
  subst hxa
  have hv := hv1
  refine gv_Q hi (fun _ => rfl) (fun L => ?_) K
  show ((gx_rd h a 100 i).bind _).map _ = _
  rw [hv, ← hc]
  rfl
theorem gv_lald {x : Option Nat} {i : Int32} {v : Int64} (hi : gx_I j pc = some .laload) (hv : gv_lJ h x i = some v) (hc : pc + 1 = pc') (K : gv_V xs D j pc' E (.long v :: st) h o h') : gv_V xs D j pc E (.int i :: gv_u x :: st) h o h' := by
  unfold gv_lJ at hv
  obtain ⟨a, hxa, hv1⟩ := Option.bind_eq_some_iff.mp hv
  clear hv
  subst hxa
  have hv := hv1
  refine gv_Q hi (fun _ => rfl) (fun L => ?_) K
  show ((gx_rd h a 101 i).bind _).map _ = _
  rw [hv, ← hc]
  rfl
theorem gv_bald {x : Option Nat} {i : Int32} {v : Int32} (hi : gx_I j pc = some .baload) (hv : gv_lZ h x i = some v) (hc : pc + 1 = pc') (K : gv_V xs D j pc' E (.int v :: st) h o h') : gv_V xs D j pc E (.int i :: gv_u x :: st) h o h' := by
  unfold gv_lZ at hv
  obtain ⟨a, hxa, hv1⟩ := Option.bind_eq_some_iff.mp hv
  clear hv
  subst hxa
  have hv := hv1
  refine gv_Q hi (fun _ => rfl) (fun L => ?_) K
  show ((gx_rd h a 102 i).bind _).map _ = _
  rw [hv, ← hc]
  rfl
theorem gv_aaT {x : Option Nat} {i : Int32} {v : Option Nat} (hi : gx_I j pc = some .aaload) (hv : gv_lT h x i = some v) (hc : pc + 1 = pc') (K : gv_V xs D j pc' E (gv_u v :: st) h o h') : gv_V xs D j pc E (.int i :: gv_u x :: st) h o h' := by
  unfold gv_lT at hv
  obtain ⟨a, hxa, hv1⟩ := Option.bind_eq_some_iff.mp hv
  clear hv
  subst hxa
  obtain ⟨w, hw, hv2⟩ := Option.bind_eq_some_iff.mp hv1
  have := gv_r_e hv2
  subst this
  refine gv_Q hi (fun _ => rfl) (fun L => ?_) K
  show (match gx_rd h a 103 i with | some v => if v.isRef then some (pc + 1, L, v :: st) else none | none => (gx_rd h a 104 i).bind fun v => if v.isRef then some (pc + 1, L, v :: st) else none) = _
  rw [hw]
  show (if _ then _ else _) = _
  rw [if_pos (gv_u_ref v), hc]
theorem gv_aaA {x : Option Nat} {i : Int32} {v : Option Nat} (hi : gx_I j pc = some .aaload) (hv : gv_lA h x i = some v) (hc : pc + 1 = pc') (K : gv_V xs D j pc' E (gv_u v :: st) h o h') : gv_V xs D j pc E (.int i :: gv_u x :: st) h o h' := by
  unfold gv_lA at hv
  obtain ⟨a, hxa, hv1⟩ := Option.bind_eq_some_iff.mp hv
  clear hv
  subst hxa
  obtain ⟨w, hw, hv2⟩ := Option.bind_eq_some_iff.mp hv1
  have := gv_r_e hv2
  subst this
  obtain ⟨vs, q1, q2, q3⟩ := gx_rd_e hw
  have h3 : gx_rd h a 103 i = none := by unfold gx_rd; rw [q1]; rfl
  refine gv_Q hi (fun _ => rfl) (fun L => ?_) K
  show (match gx_rd h a 103 i with | some v => if v.isRef then some (pc + 1, L, v :: st) else none | none => (gx_rd h a 104 i).bind fun v => if v.isRef then some (pc + 1, L, v :: st) else none) = _
  rw [h3]
  show (gx_rd h a 104 i).bind _ = _
  rw [hw]
  show (if _ then _ else _) = _
  rw [if_pos (gv_u_ref v), hc]
theorem gv_xal {x : UInt32} {i v : Int32} {l : List Int32} (hi : gx_I j pc = some .iaload) (hl : xs = some l) (h0 : ¬ i < 0) (hv : l[i.toNatClampNeg]? = some v) (hc : pc + 1 = pc') (K : gv_V xs D j pc' E (.int v :: st) h o h') : gv_V xs D j pc E (.int i :: .float x :: st) h o h' := by
  refine gv_Q hi (fun _ => rfl) (fun L => ?_) K
  show xs.bind _ = _
  rw [hl]
  show (if _ then _ else _) = _
  rw [if_neg h0, hv, ← hc]
  rfl
theorem gv_xlen {x : UInt32} {l : List Int32} (hi : gx_I j pc = some .arraylength) (hl : xs = some l) (hc : pc + 1 = pc') (K : gv_V xs D j pc' E (.int l.length.toInt32 :: st) h o h') : gv_V xs D j pc E (.float x :: st) h o h' := by
  refine gv_Q hi (fun _ => rfl) (fun L => ?_) K
  show xs.map _ = _
  rw [hl, ← hc]
  rfl
theorem gv_pI {idx c i : Nat} {x : Option Nat} {v : Int32} {h1 : gx_H} (hi : gx_I j pc = some (.putfield idx)) (hf : gx_F (gx_mo j) idx = some (c, i)) (hk : gv_fk c i = 1) (hv : gv_pV h x c i (.int v) = some h1) (hc : pc + 3 = pc') (K : gv_V xs D j pc' E st h1 o h') : gv_V xs D j pc E (.int v :: gv_u x :: st) h o h' := by
  unfold gv_pV at hv
  obtain ⟨a, hxa, hv1⟩ := Option.bind_eq_some_iff.mp hv
  clear hv
  subst hxa
  obtain ⟨fs, q1, hv2⟩ := Option.bind_eq_some_iff.mp hv1
  clear hv1
  split at hv2
  · rename_i hlt
    cases hv2
    refine gv_W hi (fun _ => rfl) (fun _ => rfl) ?_ (by simp) K
    show (gx_F _ _).bind _ = _
    rw [hf]
    show (gx_ob h a c).bind _ = _
    rw [q1]
    show (if _ then _ else _) = _
    rw [if_pos ⟨gv_fok1 hk, hlt⟩, hc]
  · cases hv2
theorem gv_pJ {idx c i : Nat} {x : Option Nat} {v : Int64} {h1 : gx_H} (hi : gx_I j pc = some (.putfield idx)) (hf : gx_F (gx_mo j) idx = some (c, i)) (hk : gv_fk c i = 2) (hv : gv_pV h x c i (.long v) = some h1) (hc : pc + 3 = pc') (K : gv_V xs D j pc' E st h1 o h') : gv_V xs D j pc E (.long v :: gv_u x :: st) h o h' := by
  unfold gv_pV at hv
  obtain ⟨a, hxa, hv1⟩ := Option.bind_eq_some_iff.mp hv
  clear hv
  subst hxa
  obtain ⟨fs, q1, hv2⟩ := Option.bind_eq_some_iff.mp hv1
  clear hv1
  split at hv2
  · rename_i hlt
    cases hv2
    refine gv_W hi (fun _ => rfl) (fun _ => rfl) ?_ (by simp) K
    show (gx_F _ _).bind _ = _
    rw [hf]
    show (gx_ob h a c).bind _ = _
    rw [q1]
    show (if _ then _ else _) = _
    rw [if_pos ⟨gv_fok2 hk, hlt⟩, hc]
  · cases hv2
theorem gv_pZ {idx c i : Nat} {x : Option Nat} {v : Int32} {h1 : gx_H} (hi : gx_I j pc = some (.putfield idx)) (hf : gx_F (gx_mo j) idx = some (c, i)) (hk : gv_fk c i = 3) (hz : v = 0 ∨ v = 1) (hv : gv_pV h x c i (.int v) = some h1) (hc : pc + 3 = pc') (K : gv_V xs D j pc' E st h1 o h') : gv_V xs D j pc E (.int v :: gv_u x :: st) h o h' := by
  unfold gv_pV at hv
  obtain ⟨a, hxa, hv1⟩ := Option.bind_eq_some_iff.mp hv
  clear hv
  subst hxa
  obtain ⟨fs, q1, hv2⟩ := Option.bind_eq_some_iff.mp hv1
  clear hv1
  split at hv2
  · rename_i hlt
    cases hv2
    refine gv_W hi (fun _ => rfl) (fun _ => rfl) ?_ (by simp) K
    show (gx_F _ _).bind _ = _
    rw [hf]
    show (gx_ob h a c).bind _ = _
    rw [q1]
    show (if _ then _ else _) = _
    rw [if_pos ⟨gv_fok3 hk hz, hlt⟩, hc]
  · cases hv2
theorem gv_iast {x : Option Nat} {i : Int32} {v : Int32} {h1 : gx_H} (hi : gx_I j pc = some .iastore) (hv : gv_wI h x i v = some h1) (hc : pc + 1 = pc') (K : gv_V xs D j pc' E st h1 o h') : gv_V xs D j pc E (.int v :: .int i :: gv_u x :: st) h o h' := by
  unfold gv_wI at hv
  obtain ⟨a, hxa, hv1⟩ := Option.bind_eq_some_iff.mp hv
  clear hv
  subst hxa
  have hv := hv1
  refine gv_W hi (fun _ => rfl) (fun _ => rfl) ?_ ?_ K
  · show (gx_wr h a 100 i (.int v)).map _ = _
    rw [hv, hc]; rfl
  · obtain ⟨vs, -, -, -, rfl⟩ := gx_wr_e hv
    simp
theorem gv_last {x : Option Nat} {i : Int32} {v : Int64} {h1 : gx_H} (hi : gx_I j pc = some .lastore) (hv : gv_wJ h x i v = some h1) (hc : pc + 1 = pc') (K : gv_V xs D j pc' E st h1 o h') : gv_V xs D j pc E (.long v :: .int i :: gv_u x :: st) h o h' := by
  unfold gv_wJ at hv
  obtain ⟨a, hxa, hv1⟩ := Option.bind_eq_some_iff.mp hv
  clear hv
  subst hxa
  have hv := hv1
  refine gv_W hi (fun _ => rfl) (fun _ => rfl) ?_ ?_ K
  · show (gx_wr h a 101 i (.long v)).map _ = _
    rw [hv, hc]; rfl
  · obtain ⟨vs, -, -, -, rfl⟩ := gx_wr_e hv
    simp
theorem gv_bast {x : Option Nat} {i : Int32} {v : Int32} {h1 : gx_H} (hi : gx_I j pc = some .bastore) (hv : gv_wZ h x i v = some h1) (hc : pc + 1 = pc') (K : gv_V xs D j pc' E st h1 o h') : gv_V xs D j pc E (.int v :: .int i :: gv_u x :: st) h o h' := by
  unfold gv_wZ at hv
  obtain ⟨a, hxa, hv1⟩ := Option.bind_eq_some_iff.mp hv
  clear hv
  subst hxa
  have hv := hv1
  refine gv_W hi (fun _ => rfl) (fun _ => rfl) ?_ ?_ K
  · show (gx_wr h a 102 i (.int (v &&& 1))).map _ = _
    rw [hv, hc]; rfl
  · obtain ⟨vs, -, -, -, rfl⟩ := gx_wr_e hv
    simp
theorem gv_acp {idx : Nat} {x y : Option Nat} {sp dp n : Int32} {h1 : gx_H} (hi : gx_I j pc = some (.invokestatic idx)) (ha : gx_ac (gx_mo j) idx = true) (hr : Nat.ble st.length 4 = true) (hv : gv_cp h x sp y dp n = some h1) (hc : pc + 3 = pc') (K : gv_V xs D j pc' E st h1 o h') : gv_V xs D j pc E (.int n :: .int dp :: gv_u y :: .int sp :: gv_u x :: st) h o h' := by
  unfold gv_cp at hv
  obtain ⟨a0, hx0, hv1⟩ := Option.bind_eq_some_iff.mp hv
  obtain ⟨a, hx1, hv2⟩ := Option.bind_eq_some_iff.mp hv1
  obtain ⟨vs, q1, hv3⟩ := Option.bind_eq_some_iff.mp hv2
  obtain ⟨ws, q2, hv4⟩ := Option.bind_eq_some_iff.mp hv3
  clear hv hv1 hv2 hv3
  subst hx0
  subst hx1
  split at hv4
  · rename_i hcnd
    cases hv4
    refine gv_B hi (fun _ => rfl) (fun _ => rfl) rfl rfl rfl rfl ?_ (by simp) K
    show (gx_ob h a0 100).bind _ = _
    rw [q1]
    show (gx_ob h a 100).bind _ = _
    rw [q2]
    show (if _ then _ else _) = _
    rw [if_pos ⟨ha, gv_sum st hr, hcnd⟩, hc]
  · cases hv4
theorem gv_retV (hi : gx_I j pc = some .return_) (hr : gx_rt j = none) : gv_V xs D j pc E [] h (.returned none) h := gv_E hi (fun _ => rfl) (fun _ => rfl) rfl rfl rfl (by show (if _ then _ else _) = _; rw [if_pos hr])
theorem gv_retI {v : Int32} (hi : gx_I j pc = some .ireturn) (hr : gx_rt j = some .int) : gv_V xs D j pc E [.int v] h (.returned (some (.int v))) h := gv_E hi (fun _ => rfl) (fun _ => rfl) rfl rfl rfl (by show (match gx_rt j with | some ty => if narrow ty (Value.int v) = Value.int v then some (some (Value.int v)) else none | none => none) = _; rw [hr]; exact if_pos rfl)
theorem gv_retZ {v : Int32} (hi : gx_I j pc = some .ireturn) (hr : gx_rt j = some .boolean) (hz : v = 0 ∨ v = 1) : gv_V xs D j pc E [.int v] h (.returned (some (.int v))) h := gv_E hi (fun _ => rfl) (fun _ => rfl) rfl rfl rfl (by show (match gx_rt j with | some ty => if narrow ty (Value.int v) = Value.int v then some (some (Value.int v)) else none | none => none) = _; rw [hr]; show (if _ then _ else _) = _; rw [if_pos (gv_nz hz)])
theorem gv_retJ {v : Int64} (hi : gx_I j pc = some .lreturn) (hr : gx_rt j = some .long) : gv_V xs D j pc E [.long v] h (.returned (some (.long v))) h := gv_E hi (fun _ => rfl) (fun _ => rfl) rfl rfl rfl (by show (if _ then _ else _) = _; rw [if_pos hr])
theorem gv_retR {v : Option Nat} (hi : gx_I j pc = some .areturn) (hr : gx_rr (gx_rt j) = true) : gv_V xs D j pc E [gv_u v] h (.returned (some (gv_u v))) h := gv_E hi (fun _ => rfl) (fun _ => rfl) rfl rfl rfl (by show (if _ then _ else _) = _; rw [if_pos ⟨gv_u_ref v, hr⟩])
theorem gv_thr {idx t : Nat} (hi : gx_I j pc = some (.new idx)) (hn : gx_ct (gx_mo j) idx = none) (ht : gx_th j pc (.new idx) [] = some t) : gv_V xs D j pc E [] h (.threw h.length) (h ++ [(t, [])]) := gv_th hi (fun _ => rfl) (fun _ => rfl) rfl (by show (gx_ct _ _).bind _ = _; rw [hn]; rfl) rfl rfl rfl ht
/-! calls -/
theorem gv_acN {o' idx : Nat} {st : List Value} (hb : gx_ac o' idx = false) : gx_bi o' h (.invokestatic idx) pc st = none := by
  unfold gx_bi
  dsimp only
  split
  · cases gx_ob h _ 100 with
    | none => rfl
    | some vs =>
      show Option.bind _ _ = _
      cases gx_ob h _ 100 with
      | none => rfl
      | some ws => show (if _ then _ else _) = _; rw [if_neg (fun q => by rw [hb] at q; cases q.1)]
  · rfl
theorem gv_csN {idx jc n : Nat} {A rest : List Value} {b : Bool} (hm : gx_mt (gx_mo j) idx = some (jc, b)) (hk : gx_kd jc = 0) (hn : gx_np jc = n) (hl : Nat.ble n st.length = true) (hA : (st.take n).reverse = A) (hR : st.drop n = rest) : gx_c (gx_mo j) h (.invokestatic idx) st = some (jc, A, rest) := by
  show (gx_mt _ _).bind _ = _
  rw [hm]
  show (if _ then _ else _) = _
  rw [if_pos ⟨hk, by rw [hn]; exact Nat.le_of_ble_eq_true hl⟩, hn, hA, hR]
theorem gv_cvN {idx jc n c a : Nat} {A rest : List Value} {b : Bool} (hm : gx_mt (gx_mo j) idx = some (jc, b)) (hk : gx_kd jc = 1) (hn : gx_np jc = n) (hcl : gx_rc jc = c) (hl : Nat.ble n st.length = true) (hA : (st.take n).reverse = A) (hR : st.drop n = gv_u (some a) :: rest) (hv : gv_is h (some a) c = some a) : gx_c (gx_mo j) h (.invokevirtual idx) st = some (jc, gv_u (some a) :: A, rest) := by
  show (gx_mt _ _).bind _ = _
  rw [hm]
  show (if _ then _ else _) = _
  rw [if_pos ⟨hk, by rw [hn]; exact Nat.le_of_ble_eq_true hl⟩, hn, hA, hR]
  unfold gv_is at hv
  show (gx_ob h a (gx_rc jc)).map _ = _
  rw [hcl]
  obtain ⟨fs, h1, -⟩ := Option.map_eq_some_iff.mp (show (gx_ob h a c).map _ = _ from hv)
  rw [h1]
  rfl
theorem gv_isx {x : Option Nat} {c a : Nat} (hv : gv_is h x c = some a) : x = some a ∧ gv_is h (some a) c = some a := by
  unfold gv_is at hv
  obtain ⟨a', rfl, hv⟩ := Option.bind_eq_some_iff.mp hv
  obtain ⟨fs, h1, rfl⟩ := Option.map_eq_some_iff.mp hv
  exact ⟨rfl, hv⟩
theorem gv_sS {idx jc n Dc sz : Nat} {A rest : List Value} {b : Bool} {Ec : gx_L} {v : Option Value} {h1 : gx_H} (hi : gx_I j pc = some (.invokestatic idx)) (hm : gx_mt (gx_mo j) idx = some (jc, b)) (hb : gx_ac (gx_mo j) idx = false) (hk : gx_kd jc = 0) (hn : gx_np jc = n) (hl : Nat.ble n st.length = true) (hA : (st.take n).reverse = A) (hR : st.drop n = rest) (hr : Nat.ble rest.length 4 = true) (hz : gv_z A sz) (hz2 : Nat.ble sz (gx_nl jc) = true) (ha : gv_a 0 A Ec) (hD : Dc + 1 ≤ D) (C : gv_V xs Dc jc 0 Ec [] h (.returned v) h1) (hc : pc + 3 = pc') (K : gv_V xs D j pc' E (v.toList ++ rest) h1 o h') : gv_V xs D j pc E st h o h' :=
  gv_call hi (fun _ => rfl) (fun _ => rfl) rfl rfl rfl rfl (gv_acN hb) rfl (gv_csN hm hk hn hl hA hR) hr hz hz2 ha hD C (by rw [hc]; exact K)
theorem gv_vS {idx jc n c a Dc sz : Nat} {A rest : List Value} {b : Bool} {x : Option Nat} {Ec : gx_L} {v : Option Value} {h1 : gx_H} (hi : gx_I j pc = some (.invokevirtual idx)) (hm : gx_mt (gx_mo j) idx = some (jc, b)) (hk : gx_kd jc = 1) (hn : gx_np jc = n) (hcl : gx_rc jc = c) (hl : Nat.ble n st.length = true) (hA : (st.take n).reverse = A) (hR : st.drop n = gv_u x :: rest) (hr : Nat.ble rest.length 4 = true) (hz : gv_z (gv_u x :: A) sz) (hz2 : Nat.ble sz (gx_nl jc) = true) (ha : gv_a 0 (gv_u x :: A) Ec) (hD : Dc + 1 ≤ D) (hv : gv_is h x c = some a) (C : gv_V xs Dc jc 0 Ec [] h (.returned v) h1) (hc : pc + 3 = pc') (K : gv_V xs D j pc' E (v.toList ++ rest) h1 o h') : gv_V xs D j pc E st h o h' := by
  obtain ⟨rfl, hv2⟩ := gv_isx hv
  exact gv_call hi (fun _ => rfl) (fun _ => rfl) rfl rfl rfl rfl rfl rfl (gv_cvN hm hk hn hcl hl hA hR hv2) hr hz hz2 ha hD C (by rw [hc]; exact K)
theorem gv_sX {idx jc n Dc sz : Nat} {A rest : List Value} {b : Bool} {Ec : gx_L} {x0 : Nat} {h1 : gx_H} (hi : gx_I j pc = some (.invokestatic idx)) (hm : gx_mt (gx_mo j) idx = some (jc, b)) (hb : gx_ac (gx_mo j) idx = false) (hk : gx_kd jc = 0) (hn : gx_np jc = n) (hl : Nat.ble n st.length = true) (hA : (st.take n).reverse = A) (hR : st.drop n = rest) (hr : Nat.ble rest.length 4 = true) (hz : gv_z A sz) (hz2 : Nat.ble sz (gx_nl jc) = true) (ha : gv_a 0 A Ec) (hD : Dc + 1 ≤ D) (C : gv_V xs Dc jc 0 Ec [] h (.threw x0) h1) (hx : gx_hd j = []) : gv_V xs D j pc E st h (.threw x0) h1 :=
  gv_callX hi (fun _ => rfl) (fun _ => rfl) rfl rfl rfl rfl (gv_acN hb) rfl (gv_csN hm hk hn hl hA hR) hr hz hz2 ha hD C hx
theorem gv_vX {idx jc n c a Dc sz : Nat} {A rest : List Value} {b : Bool} {x : Option Nat} {Ec : gx_L} {x0 : Nat} {h1 : gx_H} (hi : gx_I j pc = some (.invokevirtual idx)) (hm : gx_mt (gx_mo j) idx = some (jc, b)) (hk : gx_kd jc = 1) (hn : gx_np jc = n) (hcl : gx_rc jc = c) (hl : Nat.ble n st.length = true) (hA : (st.take n).reverse = A) (hR : st.drop n = gv_u x :: rest) (hr : Nat.ble rest.length 4 = true) (hz : gv_z (gv_u x :: A) sz) (hz2 : Nat.ble sz (gx_nl jc) = true) (ha : gv_a 0 (gv_u x :: A) Ec) (hD : Dc + 1 ≤ D) (hv : gv_is h x c = some a) (C : gv_V xs Dc jc 0 Ec [] h (.threw x0) h1) (hx : gx_hd j = []) : gv_V xs D j pc E st h (.threw x0) h1 := by
  obtain ⟨rfl, hv2⟩ := gv_isx hv
  exact gv_callX hi (fun _ => rfl) (fun _ => rfl) rfl rfl rfl rfl rfl rfl (gv_cvN hm hk hn hcl hl hA hR hv2) hr hz hz2 ha hD C hx
theorem gv_sC {idx jc n Dc sz : Nat} {A rest : List Value} {b : Bool} {Ec : gx_L} {x0 : Nat} {h1 : gx_H} (hi : gx_I j pc = some (.invokestatic idx)) (hm : gx_mt (gx_mo j) idx = some (jc, b)) (hb : gx_ac (gx_mo j) idx = false) (hk : gx_kd jc = 0) (hn : gx_np jc = n) (hl : Nat.ble n st.length = true) (hA : (st.take n).reverse = A) (hR : st.drop n = rest) (hr : Nat.ble rest.length 4 = true) (hz : gv_z A sz) (hz2 : Nat.ble sz (gx_nl jc) = true) (ha : gv_a 0 A Ec) (hD : Dc + 1 ≤ D) (C : gv_V xs Dc jc 0 Ec [] h (.threw x0) h1) (hx : gx_cat j pc h1 x0 = some (some pc')) (K : gv_V xs D j pc' E [gv_u (some x0)] h1 o h') : gv_V xs D j pc E st h o h' :=
  gv_callC hi (fun _ => rfl) (fun _ => rfl) rfl rfl rfl rfl (gv_acN hb) rfl (gv_csN hm hk hn hl hA hR) hr hz hz2 ha hD C hx K
theorem gv_vC {idx jc n c a Dc sz : Nat} {A rest : List Value} {b : Bool} {x : Option Nat} {Ec : gx_L} {x0 : Nat} {h1 : gx_H} (hi : gx_I j pc = some (.invokevirtual idx)) (hm : gx_mt (gx_mo j) idx = some (jc, b)) (hk : gx_kd jc = 1) (hn : gx_np jc = n) (hcl : gx_rc jc = c) (hl : Nat.ble n st.length = true) (hA : (st.take n).reverse = A) (hR : st.drop n = gv_u x :: rest) (hr : Nat.ble rest.length 4 = true) (hz : gv_z (gv_u x :: A) sz) (hz2 : Nat.ble sz (gx_nl jc) = true) (ha : gv_a 0 (gv_u x :: A) Ec) (hD : Dc + 1 ≤ D) (hv : gv_is h x c = some a) (C : gv_V xs Dc jc 0 Ec [] h (.threw x0) h1) (hx : gx_cat j pc h1 x0 = some (some pc')) (K : gv_V xs D j pc' E [gv_u (some x0)] h1 o h') : gv_V xs D j pc E st h o h' := by
  obtain ⟨rfl, hv2⟩ := gv_isx hv
  exact gv_callC hi (fun _ => rfl) (fun _ => rfl) rfl rfl rfl rfl rfl rfl (gv_cvN hm hk hn hcl hl hA hR hv2) hr hz hz2 ha hD C hx K
end GV
theorem gv_eqT {x : Int32} (c : x = 0) : gx_c1 .eq x = true := decide_eq_true (c)
theorem gv_eqF {x : Int32} (c : ¬ x = 0) : gx_c1 .eq x = false := decide_eq_false (c)
theorem gv_neT {x : Int32} (c : ¬ x = 0) : gx_c1 .ne x = true := decide_eq_true (c)
theorem gv_neF {x : Int32} (c : x = 0) : gx_c1 .ne x = false := decide_eq_false (fun q => q c)
theorem gv_ltT {x : Int32} (c : x < 0) : gx_c1 .lt x = true := decide_eq_true (c)
theorem gv_ltF {x : Int32} (c : ¬ x < 0) : gx_c1 .lt x = false := decide_eq_false (c)
theorem gv_geT {x : Int32} (c : ¬ x < 0) : gx_c1 .ge x = true := decide_eq_true (Int32.not_lt.mp c)
theorem gv_geF {x : Int32} (c : x < 0) : gx_c1 .ge x = false := decide_eq_false (Int32.not_le.mpr c)
theorem gv_gtT {x : Int32} (c : 0 < x) : gx_c1 .gt x = true := decide_eq_true (c)
theorem gv_gtF {x : Int32} (c : ¬ 0 < x) : gx_c1 .gt x = false := decide_eq_false (c)
theorem gv_leT {x : Int32} (c : ¬ 0 < x) : gx_c1 .le x = true := decide_eq_true (Int32.not_lt.mp c)
theorem gv_leF {x : Int32} (c : 0 < x) : gx_c1 .le x = false := decide_eq_false (Int32.not_le.mpr c)
theorem gv_eqT2 {x y : Int32} (c : x = y) : gx_c2 .eq x y = true := decide_eq_true (c)
theorem gv_eqF2 {x y : Int32} (c : ¬ x = y) : gx_c2 .eq x y = false := decide_eq_false (c)
theorem gv_neT2 {x y : Int32} (c : ¬ x = y) : gx_c2 .ne x y = true := decide_eq_true (c)
theorem gv_neF2 {x y : Int32} (c : x = y) : gx_c2 .ne x y = false := decide_eq_false (fun q => q c)
theorem gv_ltT2 {x y : Int32} (c : x < y) : gx_c2 .lt x y = true := decide_eq_true (c)
theorem gv_ltF2 {x y : Int32} (c : ¬ x < y) : gx_c2 .lt x y = false := decide_eq_false (c)
theorem gv_geT2 {x y : Int32} (c : ¬ x < y) : gx_c2 .ge x y = true := decide_eq_true (Int32.not_lt.mp c)
theorem gv_geF2 {x y : Int32} (c : x < y) : gx_c2 .ge x y = false := decide_eq_false (Int32.not_le.mpr c)
theorem gv_gtT2 {x y : Int32} (c : y < x) : gx_c2 .gt x y = true := decide_eq_true (c)
theorem gv_gtF2 {x y : Int32} (c : ¬ y < x) : gx_c2 .gt x y = false := decide_eq_false (c)
theorem gv_leT2 {x y : Int32} (c : ¬ y < x) : gx_c2 .le x y = true := decide_eq_true (Int32.not_lt.mp c)
theorem gv_leF2 {x y : Int32} (c : y < x) : gx_c2 .le x y = false := decide_eq_false (Int32.not_le.mpr c)
theorem gv_lg0 {x y : Int64} : lg_cmp x y = 0 ↔ x = y := by
  unfold lg_cmp
  by_cases c : x > y
  · rw [if_pos c]
    have := Int64.lt_iff_toInt_lt.mp c
    exact ⟨fun q => absurd q (by decide), fun q => by rw [q] at this; omega⟩
  · rw [if_neg c]
    by_cases c2 : x = y
    · rw [if_pos c2]; exact ⟨fun _ => c2, fun _ => rfl⟩
    · rw [if_neg c2]; exact ⟨fun q => absurd q (by decide), fun q => absurd q c2⟩
theorem gv_lgl {x y : Int64} : lg_cmp x y < 0 ↔ x < y := by
  unfold lg_cmp
  rw [Int64.lt_iff_toInt_lt]
  by_cases c : x > y
  · rw [if_pos c]
    have := Int64.lt_iff_toInt_lt.mp c
    exact ⟨fun q => absurd q (by decide), fun q => by omega⟩
  · rw [if_neg c]
    by_cases c2 : x = y
    · rw [if_pos c2]; exact ⟨fun q => absurd q (by decide), fun q => by rw [c2] at q; omega⟩
    · rw [if_neg c2]
      have c3 : ¬ y.toInt < x.toInt := fun q => c (Int64.lt_iff_toInt_lt.mpr q)
      have c4 : ¬ x.toInt = y.toInt := fun q => c2 (Int64.toInt_inj.mp q)
      exact ⟨fun _ => by omega, fun _ => by decide⟩
theorem gv_lgg {x y : Int64} : 0 < lg_cmp x y ↔ y < x := by
  unfold lg_cmp
  by_cases c : x > y
  · rw [if_pos c]
    exact ⟨fun _ => c, fun _ => by decide⟩
  · rw [if_neg c]
    refine ⟨fun q => ?_, fun q => absurd q c⟩
    by_cases c2 : x = y
    · rw [if_pos c2] at q; exact absurd q (by decide)
    · rw [if_neg c2] at q; exact absurd q (by decide)
theorem gv_eqTL {x y : Int64} (c : x = y) : gx_c1 .eq (lg_cmp x y) = true := gv_eqT (by rw [gv_lg0]; exact c)
theorem gv_eqFL {x y : Int64} (c : ¬ x = y) : gx_c1 .eq (lg_cmp x y) = false := gv_eqF (by rw [gv_lg0]; exact c)
theorem gv_neTL {x y : Int64} (c : ¬ x = y) : gx_c1 .ne (lg_cmp x y) = true := gv_neT (by rw [gv_lg0]; exact c)
theorem gv_neFL {x y : Int64} (c : x = y) : gx_c1 .ne (lg_cmp x y) = false := gv_neF (by rw [gv_lg0]; exact c)
theorem gv_ltTL {x y : Int64} (c : x < y) : gx_c1 .lt (lg_cmp x y) = true := gv_ltT (by rw [gv_lgl]; exact c)
theorem gv_ltFL {x y : Int64} (c : ¬ x < y) : gx_c1 .lt (lg_cmp x y) = false := gv_ltF (by rw [gv_lgl]; exact c)
theorem gv_geTL {x y : Int64} (c : ¬ x < y) : gx_c1 .ge (lg_cmp x y) = true := gv_geT (by rw [gv_lgl]; exact c)
theorem gv_geFL {x y : Int64} (c : x < y) : gx_c1 .ge (lg_cmp x y) = false := gv_geF (by rw [gv_lgl]; exact c)
theorem gv_gtTL {x y : Int64} (c : y < x) : gx_c1 .gt (lg_cmp x y) = true := gv_gtT (by rw [gv_lgg]; exact c)
theorem gv_gtFL {x y : Int64} (c : ¬ y < x) : gx_c1 .gt (lg_cmp x y) = false := gv_gtF (by rw [gv_lgg]; exact c)
theorem gv_leTL {x y : Int64} (c : ¬ y < x) : gx_c1 .le (lg_cmp x y) = true := gv_leT (by rw [gv_lgg]; exact c)
theorem gv_leFL {x y : Int64} (c : y < x) : gx_c1 .le (lg_cmp x y) = false := gv_leF (by rw [gv_lgg]; exact c)
/-- a switch's default -/
def gv_N (x : Int32) (ks : List Int32) : Prop := ∀ k ∈ ks, ¬ x = k
theorem gv_N0 {x : Int32} : gv_N x [] := fun k hk => by cases hk
theorem gv_N1 {x k : Int32} {ks : List Int32} (c : ¬ x = k) (h : gv_N x ks) : gv_N x (k :: ks) := fun k' hk => by
  cases hk with
  | head => exact c
  | tail _ hk => exact h k' hk
theorem gv_tabd {d lo hi : Int} {offs : Array Int} {x : Int32} {ks : List Int32} (hN : gv_N x ks) (hall : ((List.range (hi - lo + 1).toNat).all fun i => decide (offs[i]? = some d) || decide (Int32.ofInt (lo + i) ∈ ks)) = true) : gx_tab d lo hi offs x = some d := by
  unfold gx_tab
  split
  · rfl
  · split
    · rfl
    · rename_i c1 c2
      have h1 := List.all_eq_true.mp hall (x.toInt - lo).toNat (List.mem_range.mpr (by omega))
      rcases (Bool.or_eq_true _ _).mp h1 with h2 | h2
      · exact of_decide_eq_true h2
      · exfalso
        have h2 := of_decide_eq_true h2
        have h3 : lo + ((x.toInt - lo).toNat : Int) = x.toInt := by omega
        rw [h3, Int32.ofInt_toInt] at h2
        exact hN _ h2 rfl
theorem gv_bind {α β : Type} {x : Option α} {f : α → Option β} {r : β} (e : x.bind f = some r) : ∃ v, x = some v ∧ f v = some r := Option.bind_eq_some_iff.mp e
end
