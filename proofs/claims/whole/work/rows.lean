section
-- ===== PART A: goes FIRST, ahead of the names: the tables' words, and 'selects' of the private methods out of them =====
/-- a private method of a class that the tables say can be made, by its rows of tables_1 -/
def lw_okq (q : MethodName × Nat) : Prop := (q.1.cls ≠ "java/lang/invoke/MethodHandle" ∧ q.1.cls ≠ "java/lang/invoke/VarHandle") ∧ Cond.instantiable q.1.cls q.2 ∈ tables_1 ∧ Cond.privateMethod q.1 ∈ tables_1 ∧ Cond.instanceMethod q.1 ∈ tables_1
theorem lw_p0 : lw_okq (⟨"WriteOnceDisc$History", "slotBehindHeld", "()LWriteOnceDisc$Disc;"⟩, 3) := ⟨⟨by decide +kernel, by decide +kernel⟩, List.mem_of_getElem? (i := 96) (by decide +kernel), List.mem_of_getElem? (i := 165) (by decide +kernel), List.mem_of_getElem? (i := 166) (by decide +kernel)⟩
theorem lw_p1 : lw_okq (⟨"WriteOnceDisc$Disc", "areWholeIf", "(III)Z"⟩, 7) := ⟨⟨by decide +kernel, by decide +kernel⟩, List.mem_of_getElem? (i := 18) (by decide +kernel), List.mem_of_getElem? (i := 201) (by decide +kernel), List.mem_of_getElem? (i := 202) (by decide +kernel)⟩
theorem lw_p2 : lw_okq (⟨"WriteOnceDisc", "recorded", "(I)I"⟩, 3) := ⟨⟨by decide +kernel, by decide +kernel⟩, List.mem_of_getElem? (i := 10) (by decide +kernel), List.mem_of_getElem? (i := 216) (by decide +kernel), List.mem_of_getElem? (i := 217) (by decide +kernel)⟩
theorem lw_p3 : lw_okq (⟨"WriteOnceDisc$Disc", "leadOutOf", "(LWriteOnceDisc$Session;)I"⟩, 7) := ⟨⟨by decide +kernel, by decide +kernel⟩, List.mem_of_getElem? (i := 18) (by decide +kernel), List.mem_of_getElem? (i := 303) (by decide +kernel), List.mem_of_getElem? (i := 304) (by decide +kernel)⟩
theorem lw_p4 : lw_okq (⟨"WriteOnceDisc$CommandText", "signAt", "()I"⟩, 6) := ⟨⟨by decide +kernel, by decide +kernel⟩, List.mem_of_getElem? (i := 116) (by decide +kernel), List.mem_of_getElem? (i := 369) (by decide +kernel), List.mem_of_getElem? (i := 370) (by decide +kernel)⟩
theorem lw_p5 : lw_okq (⟨"WriteOnceDisc$CommandText", "readFirst", "(I)Z"⟩, 6) := ⟨⟨by decide +kernel, by decide +kernel⟩, List.mem_of_getElem? (i := 116) (by decide +kernel), List.mem_of_getElem? (i := 373) (by decide +kernel), List.mem_of_getElem? (i := 374) (by decide +kernel)⟩
theorem lw_p6 : lw_okq (⟨"WriteOnceDisc$CommandText", "readNumber", "(II)I"⟩, 6) := ⟨⟨by decide +kernel, by decide +kernel⟩, List.mem_of_getElem? (i := 116) (by decide +kernel), List.mem_of_getElem? (i := 377) (by decide +kernel), List.mem_of_getElem? (i := 378) (by decide +kernel)⟩
theorem lw_p7 : lw_okq (⟨"WriteOnceDisc$CommandText", "digitAt", "()I"⟩, 6) := ⟨⟨by decide +kernel, by decide +kernel⟩, List.mem_of_getElem? (i := 116) (by decide +kernel), List.mem_of_getElem? (i := 381) (by decide +kernel), List.mem_of_getElem? (i := 382) (by decide +kernel)⟩
theorem lw_p8 : lw_okq (⟨"WriteOnceDisc$CommandText", "readSecond", "(II)Z"⟩, 6) := ⟨⟨by decide +kernel, by decide +kernel⟩, List.mem_of_getElem? (i := 116) (by decide +kernel), List.mem_of_getElem? (i := 389) (by decide +kernel), List.mem_of_getElem? (i := 390) (by decide +kernel)⟩
theorem lw_p9 : lw_okq (⟨"WriteOnceDisc", "executeCommand", "()I"⟩, 3) := ⟨⟨by decide +kernel, by decide +kernel⟩, List.mem_of_getElem? (i := 10) (by decide +kernel), List.mem_of_getElem? (i := 398) (by decide +kernel), List.mem_of_getElem? (i := 399) (by decide +kernel)⟩
theorem lw_p10 : lw_okq (⟨"WriteOnceDisc$Disc", "moreHarmful", "(II)I"⟩, 7) := ⟨⟨by decide +kernel, by decide +kernel⟩, List.mem_of_getElem? (i := 18) (by decide +kernel), List.mem_of_getElem? (i := 543) (by decide +kernel), List.mem_of_getElem? (i := 544) (by decide +kernel)⟩
theorem lw_p11 : lw_okq (⟨"WriteOnceDiscModel", "begins", "()V"⟩, 11) := ⟨⟨by decide +kernel, by decide +kernel⟩, List.mem_of_getElem? (i := 548) (by decide +kernel), List.mem_of_getElem? (i := 592) (by decide +kernel), List.mem_of_getElem? (i := 593) (by decide +kernel)⟩
theorem lw_p12 : lw_okq (⟨"WriteOnceDiscModel", "goBegin", "(I)I"⟩, 11) := ⟨⟨by decide +kernel, by decide +kernel⟩, List.mem_of_getElem? (i := 548) (by decide +kernel), List.mem_of_getElem? (i := 599) (by decide +kernel), List.mem_of_getElem? (i := 600) (by decide +kernel)⟩
theorem lw_p13 : lw_okq (⟨"WriteOnceDiscModel", "openOne", "()I"⟩, 11) := ⟨⟨by decide +kernel, by decide +kernel⟩, List.mem_of_getElem? (i := 548) (by decide +kernel), List.mem_of_getElem? (i := 606) (by decide +kernel), List.mem_of_getElem? (i := 607) (by decide +kernel)⟩
theorem lw_p14 : lw_okq (⟨"WriteOnceDiscModel", "of", "(II)I"⟩, 11) := ⟨⟨by decide +kernel, by decide +kernel⟩, List.mem_of_getElem? (i := 548) (by decide +kernel), List.mem_of_getElem? (i := 610) (by decide +kernel), List.mem_of_getElem? (i := 611) (by decide +kernel)⟩
theorem lw_p15 : lw_okq (⟨"WriteOnceDiscModel", "validOne", "()I"⟩, 11) := ⟨⟨by decide +kernel, by decide +kernel⟩, List.mem_of_getElem? (i := 548) (by decide +kernel), List.mem_of_getElem? (i := 614) (by decide +kernel), List.mem_of_getElem? (i := 615) (by decide +kernel)⟩
def lw_privs_1 : List (MethodName × Nat) := [(⟨"WriteOnceDisc$History", "slotBehindHeld", "()LWriteOnceDisc$Disc;"⟩, 3), (⟨"WriteOnceDisc$Disc", "areWholeIf", "(III)Z"⟩, 7), (⟨"WriteOnceDisc", "recorded", "(I)I"⟩, 3), (⟨"WriteOnceDisc$Disc", "leadOutOf", "(LWriteOnceDisc$Session;)I"⟩, 7), (⟨"WriteOnceDisc$CommandText", "signAt", "()I"⟩, 6), (⟨"WriteOnceDisc$CommandText", "readFirst", "(I)Z"⟩, 6), (⟨"WriteOnceDisc$CommandText", "readNumber", "(II)I"⟩, 6), (⟨"WriteOnceDisc$CommandText", "digitAt", "()I"⟩, 6), (⟨"WriteOnceDisc$CommandText", "readSecond", "(II)Z"⟩, 6), (⟨"WriteOnceDisc", "executeCommand", "()I"⟩, 3), (⟨"WriteOnceDisc$Disc", "moreHarmful", "(II)I"⟩, 7), (⟨"WriteOnceDiscModel", "begins", "()V"⟩, 11), (⟨"WriteOnceDiscModel", "goBegin", "(I)I"⟩, 11), (⟨"WriteOnceDiscModel", "openOne", "()I"⟩, 11), (⟨"WriteOnceDiscModel", "of", "(II)I"⟩, 11), (⟨"WriteOnceDiscModel", "validOne", "()I"⟩, 11)]
theorem lw_r1 : ∀ q ∈ lw_privs_1, lw_okq q := List.forall_mem_cons.mpr ⟨lw_p0, List.forall_mem_cons.mpr ⟨lw_p1, List.forall_mem_cons.mpr ⟨lw_p2, List.forall_mem_cons.mpr ⟨lw_p3, List.forall_mem_cons.mpr ⟨lw_p4, List.forall_mem_cons.mpr ⟨lw_p5, List.forall_mem_cons.mpr ⟨lw_p6, List.forall_mem_cons.mpr ⟨lw_p7, List.forall_mem_cons.mpr ⟨lw_p8, List.forall_mem_cons.mpr ⟨lw_p9, List.forall_mem_cons.mpr ⟨lw_p10, List.forall_mem_cons.mpr ⟨lw_p11, List.forall_mem_cons.mpr ⟨lw_p12, List.forall_mem_cons.mpr ⟨lw_p13, List.forall_mem_cons.mpr ⟨lw_p14, List.forall_mem_cons.mpr ⟨lw_p15, fun _ h => absurd h List.not_mem_nil⟩⟩⟩⟩⟩⟩⟩⟩⟩⟩⟩⟩⟩⟩⟩⟩
theorem lw_p16 : lw_okq (⟨"WriteOnceDiscModel", "isReadable", "(I)Z"⟩, 11) := ⟨⟨by decide +kernel, by decide +kernel⟩, List.mem_of_getElem? (i := 548) (by decide +kernel), List.mem_of_getElem? (i := 618) (by decide +kernel), List.mem_of_getElem? (i := 619) (by decide +kernel)⟩
theorem lw_p17 : lw_okq (⟨"WriteOnceDiscModel", "isWhole", "(II)Z"⟩, 11) := ⟨⟨by decide +kernel, by decide +kernel⟩, List.mem_of_getElem? (i := 548) (by decide +kernel), List.mem_of_getElem? (i := 622) (by decide +kernel), List.mem_of_getElem? (i := 623) (by decide +kernel)⟩
theorem lw_p18 : lw_okq (⟨"WriteOnceDiscModel", "isHurt", "(I)Z"⟩, 11) := ⟨⟨by decide +kernel, by decide +kernel⟩, List.mem_of_getElem? (i := 548) (by decide +kernel), List.mem_of_getElem? (i := 626) (by decide +kernel), List.mem_of_getElem? (i := 627) (by decide +kernel)⟩
theorem lw_p19 : lw_okq (⟨"WriteOnceDiscModel", "entryOf", "(II)I"⟩, 11) := ⟨⟨by decide +kernel, by decide +kernel⟩, List.mem_of_getElem? (i := 548) (by decide +kernel), List.mem_of_getElem? (i := 630) (by decide +kernel), List.mem_of_getElem? (i := 631) (by decide +kernel)⟩
theorem lw_p20 : lw_okq (⟨"WriteOnceDiscModel", "lays", "(III)V"⟩, 11) := ⟨⟨by decide +kernel, by decide +kernel⟩, List.mem_of_getElem? (i := 548) (by decide +kernel), List.mem_of_getElem? (i := 634) (by decide +kernel), List.mem_of_getElem? (i := 635) (by decide +kernel)⟩
theorem lw_p21 : lw_okq (⟨"WriteOnceDiscModel", "takesSectors", "(II)V"⟩, 11) := ⟨⟨by decide +kernel, by decide +kernel⟩, List.mem_of_getElem? (i := 548) (by decide +kernel), List.mem_of_getElem? (i := 638) (by decide +kernel), List.mem_of_getElem? (i := 639) (by decide +kernel)⟩
theorem lw_p22 : lw_okq (⟨"WriteOnceDiscModel", "records", "(I)I"⟩, 11) := ⟨⟨by decide +kernel, by decide +kernel⟩, List.mem_of_getElem? (i := 548) (by decide +kernel), List.mem_of_getElem? (i := 642) (by decide +kernel), List.mem_of_getElem? (i := 643) (by decide +kernel)⟩
theorem lw_p23 : lw_okq (⟨"WriteOnceDiscModel", "goWrite", "(II)I"⟩, 11) := ⟨⟨by decide +kernel, by decide +kernel⟩, List.mem_of_getElem? (i := 548) (by decide +kernel), List.mem_of_getElem? (i := 650) (by decide +kernel), List.mem_of_getElem? (i := 651) (by decide +kernel)⟩
theorem lw_p24 : lw_okq (⟨"WriteOnceDiscModel", "goRemove", "(I)I"⟩, 11) := ⟨⟨by decide +kernel, by decide +kernel⟩, List.mem_of_getElem? (i := 548) (by decide +kernel), List.mem_of_getElem? (i := 661) (by decide +kernel), List.mem_of_getElem? (i := 662) (by decide +kernel)⟩
theorem lw_p25 : lw_okq (⟨"WriteOnceDiscModel", "entries", "(I)I"⟩, 11) := ⟨⟨by decide +kernel, by decide +kernel⟩, List.mem_of_getElem? (i := 548) (by decide +kernel), List.mem_of_getElem? (i := 665) (by decide +kernel), List.mem_of_getElem? (i := 666) (by decide +kernel)⟩
theorem lw_p26 : lw_okq (⟨"WriteOnceDiscModel", "goKeep", "(II)I"⟩, 11) := ⟨⟨by decide +kernel, by decide +kernel⟩, List.mem_of_getElem? (i := 548) (by decide +kernel), List.mem_of_getElem? (i := 673) (by decide +kernel), List.mem_of_getElem? (i := 674) (by decide +kernel)⟩
theorem lw_p27 : lw_okq (⟨"WriteOnceDiscModel", "isSession", "(I)Z"⟩, 11) := ⟨⟨by decide +kernel, by decide +kernel⟩, List.mem_of_getElem? (i := 548) (by decide +kernel), List.mem_of_getElem? (i := 677) (by decide +kernel), List.mem_of_getElem? (i := 678) (by decide +kernel)⟩
theorem lw_p28 : lw_okq (⟨"WriteOnceDiscModel", "goClose", "()I"⟩, 11) := ⟨⟨by decide +kernel, by decide +kernel⟩, List.mem_of_getElem? (i := 548) (by decide +kernel), List.mem_of_getElem? (i := 688) (by decide +kernel), List.mem_of_getElem? (i := 689) (by decide +kernel)⟩
theorem lw_p29 : lw_okq (⟨"WriteOnceDiscModel", "closes", "(I)I"⟩, 11) := ⟨⟨by decide +kernel, by decide +kernel⟩, List.mem_of_getElem? (i := 548) (by decide +kernel), List.mem_of_getElem? (i := 692) (by decide +kernel), List.mem_of_getElem? (i := 693) (by decide +kernel)⟩
theorem lw_p30 : lw_okq (⟨"WriteOnceDiscModel", "goEject", "()I"⟩, 11) := ⟨⟨by decide +kernel, by decide +kernel⟩, List.mem_of_getElem? (i := 548) (by decide +kernel), List.mem_of_getElem? (i := 700) (by decide +kernel), List.mem_of_getElem? (i := 701) (by decide +kernel)⟩
theorem lw_p31 : lw_okq (⟨"WriteOnceDiscModel", "goRepair", "(I)I"⟩, 11) := ⟨⟨by decide +kernel, by decide +kernel⟩, List.mem_of_getElem? (i := 548) (by decide +kernel), List.mem_of_getElem? (i := 708) (by decide +kernel), List.mem_of_getElem? (i := 709) (by decide +kernel)⟩
def lw_privs_2 : List (MethodName × Nat) := [(⟨"WriteOnceDiscModel", "isReadable", "(I)Z"⟩, 11), (⟨"WriteOnceDiscModel", "isWhole", "(II)Z"⟩, 11), (⟨"WriteOnceDiscModel", "isHurt", "(I)Z"⟩, 11), (⟨"WriteOnceDiscModel", "entryOf", "(II)I"⟩, 11), (⟨"WriteOnceDiscModel", "lays", "(III)V"⟩, 11), (⟨"WriteOnceDiscModel", "takesSectors", "(II)V"⟩, 11), (⟨"WriteOnceDiscModel", "records", "(I)I"⟩, 11), (⟨"WriteOnceDiscModel", "goWrite", "(II)I"⟩, 11), (⟨"WriteOnceDiscModel", "goRemove", "(I)I"⟩, 11), (⟨"WriteOnceDiscModel", "entries", "(I)I"⟩, 11), (⟨"WriteOnceDiscModel", "goKeep", "(II)I"⟩, 11), (⟨"WriteOnceDiscModel", "isSession", "(I)Z"⟩, 11), (⟨"WriteOnceDiscModel", "goClose", "()I"⟩, 11), (⟨"WriteOnceDiscModel", "closes", "(I)I"⟩, 11), (⟨"WriteOnceDiscModel", "goEject", "()I"⟩, 11), (⟨"WriteOnceDiscModel", "goRepair", "(I)I"⟩, 11)]
theorem lw_r2 : ∀ q ∈ lw_privs_2, lw_okq q := List.forall_mem_cons.mpr ⟨lw_p16, List.forall_mem_cons.mpr ⟨lw_p17, List.forall_mem_cons.mpr ⟨lw_p18, List.forall_mem_cons.mpr ⟨lw_p19, List.forall_mem_cons.mpr ⟨lw_p20, List.forall_mem_cons.mpr ⟨lw_p21, List.forall_mem_cons.mpr ⟨lw_p22, List.forall_mem_cons.mpr ⟨lw_p23, List.forall_mem_cons.mpr ⟨lw_p24, List.forall_mem_cons.mpr ⟨lw_p25, List.forall_mem_cons.mpr ⟨lw_p26, List.forall_mem_cons.mpr ⟨lw_p27, List.forall_mem_cons.mpr ⟨lw_p28, List.forall_mem_cons.mpr ⟨lw_p29, List.forall_mem_cons.mpr ⟨lw_p30, List.forall_mem_cons.mpr ⟨lw_p31, fun _ h => absurd h List.not_mem_nil⟩⟩⟩⟩⟩⟩⟩⟩⟩⟩⟩⟩⟩⟩⟩⟩
theorem lw_p32 : lw_okq (⟨"WriteOnceDiscModel", "goDamage", "(I)I"⟩, 11) := ⟨⟨by decide +kernel, by decide +kernel⟩, List.mem_of_getElem? (i := 548) (by decide +kernel), List.mem_of_getElem? (i := 716) (by decide +kernel), List.mem_of_getElem? (i := 717) (by decide +kernel)⟩
theorem lw_p33 : lw_okq (⟨"WriteOnceDiscModel", "damages", "()I"⟩, 11) := ⟨⟨by decide +kernel, by decide +kernel⟩, List.mem_of_getElem? (i := 548) (by decide +kernel), List.mem_of_getElem? (i := 723) (by decide +kernel), List.mem_of_getElem? (i := 724) (by decide +kernel)⟩
theorem lw_p34 : lw_okq (⟨"WriteOnceDiscModel", "goSet", "(II)I"⟩, 11) := ⟨⟨by decide +kernel, by decide +kernel⟩, List.mem_of_getElem? (i := 548) (by decide +kernel), List.mem_of_getElem? (i := 731) (by decide +kernel), List.mem_of_getElem? (i := 732) (by decide +kernel)⟩
theorem lw_p35 : lw_okq (⟨"WriteOnceDiscModel", "isText", "()Z"⟩, 11) := ⟨⟨by decide +kernel, by decide +kernel⟩, List.mem_of_getElem? (i := 548) (by decide +kernel), List.mem_of_getElem? (i := 747) (by decide +kernel), List.mem_of_getElem? (i := 748) (by decide +kernel)⟩
theorem lw_p36 : lw_okq (⟨"WriteOnceDiscModel", "takesCommand", "()V"⟩, 11) := ⟨⟨by decide +kernel, by decide +kernel⟩, List.mem_of_getElem? (i := 548) (by decide +kernel), List.mem_of_getElem? (i := 751) (by decide +kernel), List.mem_of_getElem? (i := 752) (by decide +kernel)⟩
theorem lw_p37 : lw_okq (⟨"WriteOnceDiscModel", "here", "()I"⟩, 11) := ⟨⟨by decide +kernel, by decide +kernel⟩, List.mem_of_getElem? (i := 548) (by decide +kernel), List.mem_of_getElem? (i := 755) (by decide +kernel), List.mem_of_getElem? (i := 756) (by decide +kernel)⟩
theorem lw_p38 : lw_okq (⟨"WriteOnceDiscModel", "takes", "(Z)V"⟩, 11) := ⟨⟨by decide +kernel, by decide +kernel⟩, List.mem_of_getElem? (i := 548) (by decide +kernel), List.mem_of_getElem? (i := 759) (by decide +kernel), List.mem_of_getElem? (i := 760) (by decide +kernel)⟩
theorem lw_p39 : lw_okq (⟨"WriteOnceDiscModel", "takesNumber", "(II)I"⟩, 11) := ⟨⟨by decide +kernel, by decide +kernel⟩, List.mem_of_getElem? (i := 548) (by decide +kernel), List.mem_of_getElem? (i := 763) (by decide +kernel), List.mem_of_getElem? (i := 764) (by decide +kernel)⟩
theorem lw_p40 : lw_okq (⟨"WriteOnceDiscModel", "doesCommand", "()I"⟩, 11) := ⟨⟨by decide +kernel, by decide +kernel⟩, List.mem_of_getElem? (i := 548) (by decide +kernel), List.mem_of_getElem? (i := 771) (by decide +kernel), List.mem_of_getElem? (i := 772) (by decide +kernel)⟩
theorem lw_p41 : lw_okq (⟨"WriteOnceDiscModel", "sessionAt", "(I)I"⟩, 11) := ⟨⟨by decide +kernel, by decide +kernel⟩, List.mem_of_getElem? (i := 548) (by decide +kernel), List.mem_of_getElem? (i := 794) (by decide +kernel), List.mem_of_getElem? (i := 795) (by decide +kernel)⟩
theorem lw_p42 : lw_okq (⟨"WriteOnceDiscModel", "found", "(I)I"⟩, 11) := ⟨⟨by decide +kernel, by decide +kernel⟩, List.mem_of_getElem? (i := 548) (by decide +kernel), List.mem_of_getElem? (i := 822) (by decide +kernel), List.mem_of_getElem? (i := 823) (by decide +kernel)⟩
theorem lw_p43 : lw_okq (⟨"WriteOnceDiscModel", "isIntact", "(I)Z"⟩, 11) := ⟨⟨by decide +kernel, by decide +kernel⟩, List.mem_of_getElem? (i := 548) (by decide +kernel), List.mem_of_getElem? (i := 830) (by decide +kernel), List.mem_of_getElem? (i := 831) (by decide +kernel)⟩
theorem lw_p44 : lw_okq (⟨"WriteOnceDiscModel", "wholeFiles", "()I"⟩, 11) := ⟨⟨by decide +kernel, by decide +kernel⟩, List.mem_of_getElem? (i := 548) (by decide +kernel), List.mem_of_getElem? (i := 838) (by decide +kernel), List.mem_of_getElem? (i := 839) (by decide +kernel)⟩
theorem lw_p45 : lw_okq (⟨"WriteOnceDiscModel", "foundSectors", "()I"⟩, 11) := ⟨⟨by decide +kernel, by decide +kernel⟩, List.mem_of_getElem? (i := 548) (by decide +kernel), List.mem_of_getElem? (i := 854) (by decide +kernel), List.mem_of_getElem? (i := 855) (by decide +kernel)⟩
theorem lw_p46 : lw_okq (⟨"WriteOnceDiscModel", "room", "()I"⟩, 11) := ⟨⟨by decide +kernel, by decide +kernel⟩, List.mem_of_getElem? (i := 548) (by decide +kernel), List.mem_of_getElem? (i := 866) (by decide +kernel), List.mem_of_getElem? (i := 867) (by decide +kernel)⟩
theorem lw_p47 : lw_okq (⟨"WriteOnceDiscModel", "hurtOf", "(I)I"⟩, 11) := ⟨⟨by decide +kernel, by decide +kernel⟩, List.mem_of_getElem? (i := 548) (by decide +kernel), List.mem_of_getElem? (i := 882) (by decide +kernel), List.mem_of_getElem? (i := 883) (by decide +kernel)⟩
def lw_privs_3 : List (MethodName × Nat) := [(⟨"WriteOnceDiscModel", "goDamage", "(I)I"⟩, 11), (⟨"WriteOnceDiscModel", "damages", "()I"⟩, 11), (⟨"WriteOnceDiscModel", "goSet", "(II)I"⟩, 11), (⟨"WriteOnceDiscModel", "isText", "()Z"⟩, 11), (⟨"WriteOnceDiscModel", "takesCommand", "()V"⟩, 11), (⟨"WriteOnceDiscModel", "here", "()I"⟩, 11), (⟨"WriteOnceDiscModel", "takes", "(Z)V"⟩, 11), (⟨"WriteOnceDiscModel", "takesNumber", "(II)I"⟩, 11), (⟨"WriteOnceDiscModel", "doesCommand", "()I"⟩, 11), (⟨"WriteOnceDiscModel", "sessionAt", "(I)I"⟩, 11), (⟨"WriteOnceDiscModel", "found", "(I)I"⟩, 11), (⟨"WriteOnceDiscModel", "isIntact", "(I)Z"⟩, 11), (⟨"WriteOnceDiscModel", "wholeFiles", "()I"⟩, 11), (⟨"WriteOnceDiscModel", "foundSectors", "()I"⟩, 11), (⟨"WriteOnceDiscModel", "room", "()I"⟩, 11), (⟨"WriteOnceDiscModel", "hurtOf", "(I)I"⟩, 11)]
theorem lw_r3 : ∀ q ∈ lw_privs_3, lw_okq q := List.forall_mem_cons.mpr ⟨lw_p32, List.forall_mem_cons.mpr ⟨lw_p33, List.forall_mem_cons.mpr ⟨lw_p34, List.forall_mem_cons.mpr ⟨lw_p35, List.forall_mem_cons.mpr ⟨lw_p36, List.forall_mem_cons.mpr ⟨lw_p37, List.forall_mem_cons.mpr ⟨lw_p38, List.forall_mem_cons.mpr ⟨lw_p39, List.forall_mem_cons.mpr ⟨lw_p40, List.forall_mem_cons.mpr ⟨lw_p41, List.forall_mem_cons.mpr ⟨lw_p42, List.forall_mem_cons.mpr ⟨lw_p43, List.forall_mem_cons.mpr ⟨lw_p44, List.forall_mem_cons.mpr ⟨lw_p45, List.forall_mem_cons.mpr ⟨lw_p46, List.forall_mem_cons.mpr ⟨lw_p47, fun _ h => absurd h List.not_mem_nil⟩⟩⟩⟩⟩⟩⟩⟩⟩⟩⟩⟩⟩⟩⟩⟩
def lw_privs : List (MethodName × Nat) := lw_privs_1 ++ (lw_privs_2 ++ (lw_privs_3))
def lw_tbl : List Cond := k2_sels lw_privs ++ tables_1
theorem lw_privs_ok : ∀ q ∈ lw_privs, lw_okq q := by
  show ∀ q ∈ lw_privs_1 ++ (lw_privs_2 ++ (lw_privs_3)), lw_okq q
  exact List.forall_mem_append.mpr ⟨lw_r1, List.forall_mem_append.mpr ⟨lw_r2, lw_r3⟩⟩
/-- the streams that the claim lets the run draw from -/
abbrev lw_cs : List Choice := [Jvm.Choice.named "NaN.bits"]
theorem lw_bits : nanBits ∈ lw_cs := by first | decide | exact List.mem_cons_self | simp [lw_cs, nanBits]
-- ===== end of PART A; then your names; then what follows =====
end
section
def RX0 : String := "WriteOnceDisc$CommandText"
def TX0 : u_T := fun k => match k with
  | 0 => ("WriteOnceDisc$CommandText", "signs", "[C", true)
  | 1 => ("WriteOnceDisc$CommandText", "length", "I", false)
  | 2 => ("WriteOnceDisc$CommandText", "at", "I", false)
  | 3 => ("WriteOnceDisc$CommandText", "letter", "I", false)
  | 4 => ("WriteOnceDisc$CommandText", "firstNumber", "I", false)
  | _ => ("WriteOnceDisc$CommandText", "secondNumber", "I", false)
def tyX0 : Nat → FieldType := fun k => match k with
  | 0 => .array .char
  | 1 => .int
  | 2 => .int
  | 3 => .int
  | 4 => .int
  | _ => .int
abbrev wsX00 : List Cond := u_ws RX0 TX0 6
theorem nmX0 : ∀ a, a < 6 → ∀ b, b < 6 → a ≠ b → (TX0 a).2.1 ≠ (TX0 b).2.1 := by decide +kernel
theorem tyX0_ok : ∀ k, k < 6 → parseFieldDescriptor (TX0 k).2.2.1 = some (tyX0 k) := by decide +kernel
abbrev cX0_init : ByteArray := prog_2_method_1_code
def yX0_init : MethodName := ⟨RX0, "<init>", "()V"⟩
abbrev cX0_addSign : ByteArray := prog_2_method_2_code
def yX0_addSign : MethodName := ⟨RX0, "addSign", "(C)Z"⟩
abbrev cX0_firstFault : ByteArray := prog_2_method_3_code
def yX0_firstFault : MethodName := ⟨RX0, "firstFault", "()I"⟩
abbrev cX0_readCommand : ByteArray := prog_2_method_4_code
def yX0_readCommand : MethodName := ⟨RX0, "readCommand", "()Z"⟩
abbrev cX0_readSign : ByteArray := prog_2_method_5_code
def yX0_readSign : MethodName := ⟨RX0, "readSign", "(C)Z"⟩
abbrev cX0_readFirst : ByteArray := prog_2_method_6_code
def yX0_readFirst : MethodName := ⟨RX0, "readFirst", "(I)Z"⟩
abbrev cX0_readSecond : ByteArray := prog_2_method_7_code
def yX0_readSecond : MethodName := ⟨RX0, "readSecond", "(II)Z"⟩
abbrev cX0_readNumber : ByteArray := prog_2_method_8_code
def yX0_readNumber : MethodName := ⟨RX0, "readNumber", "(II)I"⟩
abbrev cX0_digitAt : ByteArray := prog_2_method_9_code
def yX0_digitAt : MethodName := ⟨RX0, "digitAt", "()I"⟩
abbrev cX0_signAt : ByteArray := prog_2_method_10_code
def yX0_signAt : MethodName := ⟨RX0, "signAt", "()I"⟩
def RX1 : String := "WriteOnceDisc$Disc"
def TX1 : u_T := fun k => match k with
  | 0 => ("WriteOnceDisc$Disc", "sessions", "[LWriteOnceDisc$Session;", true)
  | 1 => ("WriteOnceDisc$Disc", "damage", "[Z", true)
  | 2 => ("WriteOnceDisc$Disc", "versionsWritten", "[I", true)
  | 3 => ("WriteOnceDisc$Disc", "settings", "[I", true)
  | 4 => ("WriteOnceDisc$Disc", "begun", "I", false)
  | 5 => ("WriteOnceDisc$Disc", "nextSector", "I", false)
  | _ => ("WriteOnceDisc$Disc", "damagedSectors", "I", false)
def tyX1 : Nat → FieldType := fun k => match k with
  | 0 => .array (.object "WriteOnceDisc$Session")
  | 1 => .array .boolean
  | 2 => .array .int
  | 3 => .array .int
  | 4 => .int
  | 5 => .int
  | _ => .int
abbrev wsX10 : List Cond := u_ws RX1 TX1 7
theorem nmX1 : ∀ a, a < 7 → ∀ b, b < 7 → a ≠ b → (TX1 a).2.1 ≠ (TX1 b).2.1 := by decide +kernel
theorem tyX1_ok : ∀ k, k < 7 → parseFieldDescriptor (TX1 k).2.2.1 = some (tyX1 k) := by decide +kernel
abbrev cX1_init : ByteArray := prog_3_method_1_code
def yX1_init : MethodName := ⟨RX1, "<init>", "()V"⟩
abbrev cX1_copyAll : ByteArray := prog_3_method_2_code
def yX1_copyAll : MethodName := ⟨RX1, "copyAll", "(LWriteOnceDisc$Disc;)V"⟩
abbrev cX1_beginSession : ByteArray := prog_3_method_3_code
def yX1_beginSession : MethodName := ⟨RX1, "beginSession", "(I)I"⟩
abbrev cX1_writeFile : ByteArray := prog_3_method_4_code
def yX1_writeFile : MethodName := ⟨RX1, "writeFile", "(II)I"⟩
abbrev cX1_removeEntry : ByteArray := prog_3_method_5_code
def yX1_removeEntry : MethodName := ⟨RX1, "removeEntry", "(I)I"⟩
abbrev cX1_keepEntry : ByteArray := prog_3_method_6_code
def yX1_keepEntry : MethodName := ⟨RX1, "keepEntry", "(II)I"⟩
abbrev cX1_closeSession : ByteArray := prog_3_method_7_code
def yX1_closeSession : MethodName := ⟨RX1, "closeSession", "()I"⟩
abbrev cX1_breakSession : ByteArray := prog_3_method_8_code
def yX1_breakSession : MethodName := ⟨RX1, "breakSession", "()I"⟩
abbrev cX1_repairSession : ByteArray := prog_3_method_9_code
def yX1_repairSession : MethodName := ⟨RX1, "repairSession", "(I)I"⟩
abbrev cX1_damageSector : ByteArray := prog_3_method_10_code
def yX1_damageSector : MethodName := ⟨RX1, "damageSector", "(I)I"⟩
abbrev cX1_changeSetting : ByteArray := prog_3_method_11_code
def yX1_changeSetting : MethodName := ⟨RX1, "changeSetting", "(II)I"⟩
abbrev cX1_leadOutOf : ByteArray := prog_3_method_12_code
def yX1_leadOutOf : MethodName := ⟨RX1, "leadOutOf", "(LWriteOnceDisc$Session;)I"⟩
abbrev cX1_sessionAt : ByteArray := prog_3_method_13_code
def yX1_sessionAt : MethodName := ⟨RX1, "sessionAt", "(I)LWriteOnceDisc$Session;"⟩
abbrev cX1_openSession : ByteArray := prog_3_method_14_code
def yX1_openSession : MethodName := ⟨RX1, "openSession", "()LWriteOnceDisc$Session;"⟩
abbrev cX1_validNumberIf : ByteArray := prog_3_method_15_code
def yX1_validNumberIf : MethodName := ⟨RX1, "validNumberIf", "(I)I"⟩
abbrev cX1_isReadableIf : ByteArray := prog_3_method_16_code
def yX1_isReadableIf : MethodName := ⟨RX1, "isReadableIf", "(LWriteOnceDisc$Session;I)Z"⟩
abbrev cX1_areWholeIf : ByteArray := prog_3_method_17_code
def yX1_areWholeIf : MethodName := ⟨RX1, "areWholeIf", "(III)Z"⟩
abbrev cX1_useOf : ByteArray := prog_3_method_18_code
def yX1_useOf : MethodName := ⟨RX1, "useOf", "(I)I"⟩
abbrev cX1_isIntactIf : ByteArray := prog_3_method_19_code
def yX1_isIntactIf : MethodName := ⟨RX1, "isIntactIf", "(LWriteOnceDisc$StoredFile;I)Z"⟩
abbrev cX1_foundFile : ByteArray := prog_3_method_20_code
def yX1_foundFile : MethodName := ⟨RX1, "foundFile", "(I)LWriteOnceDisc$StoredFile;"⟩
abbrev cX1_countIntactIf : ByteArray := prog_3_method_21_code
def yX1_countIntactIf : MethodName := ⟨RX1, "countIntactIf", "(I)I"⟩
abbrev cX1_latestWithIntact : ByteArray := prog_3_method_22_code
def yX1_latestWithIntact : MethodName := ⟨RX1, "latestWithIntact", "(I)I"⟩
abbrev cX1_countFoundSectors : ByteArray := prog_3_method_23_code
def yX1_countFoundSectors : MethodName := ⟨RX1, "countFoundSectors", "()I"⟩
abbrev cX1_roomForFiles : ByteArray := prog_3_method_24_code
def yX1_roomForFiles : MethodName := ⟨RX1, "roomForFiles", "()I"⟩
abbrev cX1_sessionsOfOneFile : ByteArray := prog_3_method_25_code
def yX1_sessionsOfOneFile : MethodName := ⟨RX1, "sessionsOfOneFile", "(I)I"⟩
abbrev cX1_mostHarmfulSector : ByteArray := prog_3_method_26_code
def yX1_mostHarmfulSector : MethodName := ⟨RX1, "mostHarmfulSector", "()I"⟩
abbrev cX1_moreHarmful : ByteArray := prog_3_method_27_code
def yX1_moreHarmful : MethodName := ⟨RX1, "moreHarmful", "(II)I"⟩
def RX2 : String := "WriteOnceDisc$History"
def TX2 : u_T := fun k => match k with
  | 0 => ("WriteOnceDisc$History", "slots", "[LWriteOnceDisc$Disc;", true)
  | 1 => ("WriteOnceDisc$History", "oldest", "I", false)
  | _ => ("WriteOnceDisc$History", "held", "I", false)
def tyX2 : Nat → FieldType := fun k => match k with
  | 0 => .array (.object "WriteOnceDisc$Disc")
  | 1 => .int
  | _ => .int
abbrev wsX20 : List Cond := u_ws RX2 TX2 3
theorem nmX2 : ∀ a, a < 3 → ∀ b, b < 3 → a ≠ b → (TX2 a).2.1 ≠ (TX2 b).2.1 := by decide +kernel
theorem tyX2_ok : ∀ k, k < 3 → parseFieldDescriptor (TX2 k).2.2.1 = some (tyX2 k) := by decide +kernel
abbrev cX2_init : ByteArray := prog_4_method_1_code
def yX2_init : MethodName := ⟨RX2, "<init>", "()V"⟩
abbrev cX2_slotBehindHeld : ByteArray := prog_4_method_2_code
def yX2_slotBehindHeld : MethodName := ⟨RX2, "slotBehindHeld", "()LWriteOnceDisc$Disc;"⟩
abbrev cX2_sketch : ByteArray := prog_4_method_3_code
def yX2_sketch : MethodName := ⟨RX2, "sketch", "(LWriteOnceDisc$Disc;)V"⟩
abbrev cX2_recordSketch : ByteArray := prog_4_method_4_code
def yX2_recordSketch : MethodName := ⟨RX2, "recordSketch", "()V"⟩
abbrev cX2_takeBack : ByteArray := prog_4_method_5_code
def yX2_takeBack : MethodName := ⟨RX2, "takeBack", "(LWriteOnceDisc$Disc;)Z"⟩
def RX3 : String := "WriteOnceDisc$Session"
def TX3 : u_T := fun k => match k with
  | 0 => ("WriteOnceDisc$Session", "table", "[LWriteOnceDisc$StoredFile;", true)
  | 1 => ("WriteOnceDisc$Session", "status", "I", false)
  | 2 => ("WriteOnceDisc$Session", "first", "I", false)
  | 3 => ("WriteOnceDisc$Session", "end", "I", false)
  | 4 => ("WriteOnceDisc$Session", "leadIn", "I", false)
  | 5 => ("WriteOnceDisc$Session", "leadOut", "I", false)
  | _ => ("WriteOnceDisc$Session", "written", "I", false)
def tyX3 : Nat → FieldType := fun k => match k with
  | 0 => .array (.object "WriteOnceDisc$StoredFile")
  | 1 => .int
  | 2 => .int
  | 3 => .int
  | 4 => .int
  | 5 => .int
  | _ => .int
abbrev wsX30 : List Cond := u_ws RX3 TX3 7
theorem nmX3 : ∀ a, a < 7 → ∀ b, b < 7 → a ≠ b → (TX3 a).2.1 ≠ (TX3 b).2.1 := by decide +kernel
theorem tyX3_ok : ∀ k, k < 7 → parseFieldDescriptor (TX3 k).2.2.1 = some (tyX3 k) := by decide +kernel
abbrev cX3_init : ByteArray := prog_5_method_1_code
def yX3_init : MethodName := ⟨RX3, "<init>", "()V"⟩
abbrev cX3_startAt : ByteArray := prog_5_method_2_code
def yX3_startAt : MethodName := ⟨RX3, "startAt", "(III)V"⟩
abbrev cX3_copyTable : ByteArray := prog_5_method_3_code
def yX3_copyTable : MethodName := ⟨RX3, "copyTable", "(LWriteOnceDisc$Session;)V"⟩
abbrev cX3_copyAll : ByteArray := prog_5_method_4_code
def yX3_copyAll : MethodName := ⟨RX3, "copyAll", "(LWriteOnceDisc$Session;)V"⟩
abbrev cX3_fileOf : ByteArray := prog_5_method_5_code
def yX3_fileOf : MethodName := ⟨RX3, "fileOf", "(I)LWriteOnceDisc$StoredFile;"⟩
abbrev cX3_putFile : ByteArray := prog_5_method_6_code
def yX3_putFile : MethodName := ⟨RX3, "putFile", "(ILWriteOnceDisc$StoredFile;)V"⟩
abbrev cX3_countEntries : ByteArray := prog_5_method_7_code
def yX3_countEntries : MethodName := ⟨RX3, "countEntries", "()I"⟩
abbrev cX3_hasTaken : ByteArray := prog_5_method_8_code
def yX3_hasTaken : MethodName := ⟨RX3, "hasTaken", "(I)Z"⟩
abbrev cX3_useOf : ByteArray := prog_5_method_9_code
def yX3_useOf : MethodName := ⟨RX3, "useOf", "(I)I"⟩
def RX4 : String := "WriteOnceDisc$StoredFile"
def TX4 : u_T := fun k => match k with
  | 0 => ("WriteOnceDisc$StoredFile", "first", "I", true)
  | 1 => ("WriteOnceDisc$StoredFile", "size", "I", true)
  | _ => ("WriteOnceDisc$StoredFile", "session", "I", true)
def tyX4 : Nat → FieldType := fun k => match k with
  | 0 => .int
  | 1 => .int
  | _ => .int
abbrev wsX40 : List Cond := u_ws RX4 TX4 3
theorem nmX4 : ∀ a, a < 3 → ∀ b, b < 3 → a ≠ b → (TX4 a).2.1 ≠ (TX4 b).2.1 := by decide +kernel
theorem tyX4_ok : ∀ k, k < 3 → parseFieldDescriptor (TX4 k).2.2.1 = some (tyX4 k) := by decide +kernel
abbrev cX4_init : ByteArray := prog_6_method_1_code
def yX4_init : MethodName := ⟨RX4, "<init>", "(III)V"⟩
def RX5 : String := "WriteOnceDisc"
def TX5 : u_T := fun k => match k with
  | 0 => ("WriteOnceDisc", "disc", "LWriteOnceDisc$Disc;", true)
  | 1 => ("WriteOnceDisc", "history", "LWriteOnceDisc$History;", true)
  | _ => ("WriteOnceDisc", "text", "LWriteOnceDisc$CommandText;", true)
def tyX5 : Nat → FieldType := fun k => match k with
  | 0 => .object "WriteOnceDisc$Disc"
  | 1 => .object "WriteOnceDisc$History"
  | _ => .object "WriteOnceDisc$CommandText"
abbrev wsX50 : List Cond := u_ws RX5 TX5 3
theorem nmX5 : ∀ a, a < 3 → ∀ b, b < 3 → a ≠ b → (TX5 a).2.1 ≠ (TX5 b).2.1 := by decide +kernel
theorem tyX5_ok : ∀ k, k < 3 → parseFieldDescriptor (TX5 k).2.2.1 = some (tyX5 k) := by decide +kernel
abbrev cX5_init : ByteArray := prog_1_method_1_code
def yX5_init : MethodName := ⟨RX5, "<init>", "()V"⟩
abbrev cX5_begin : ByteArray := prog_1_method_2_code
def yX5_begin : MethodName := ⟨RX5, "begin", "(I)I"⟩
abbrev cX5_write : ByteArray := prog_1_method_3_code
def yX5_write : MethodName := ⟨RX5, "write", "(II)I"⟩
abbrev cX5_remove : ByteArray := prog_1_method_4_code
def yX5_remove : MethodName := ⟨RX5, "remove", "(I)I"⟩
abbrev cX5_keep : ByteArray := prog_1_method_5_code
def yX5_keep : MethodName := ⟨RX5, "keep", "(II)I"⟩
abbrev cX5_close : ByteArray := prog_1_method_6_code
def yX5_close : MethodName := ⟨RX5, "close", "()I"⟩
abbrev cX5_eject : ByteArray := prog_1_method_7_code
def yX5_eject : MethodName := ⟨RX5, "eject", "()I"⟩
abbrev cX5_repair : ByteArray := prog_1_method_8_code
def yX5_repair : MethodName := ⟨RX5, "repair", "(I)I"⟩
abbrev cX5_damage : ByteArray := prog_1_method_9_code
def yX5_damage : MethodName := ⟨RX5, "damage", "(I)I"⟩
abbrev cX5_set : ByteArray := prog_1_method_10_code
def yX5_set : MethodName := ⟨RX5, "set", "(II)I"⟩
abbrev cX5_append : ByteArray := prog_1_method_11_code
def yX5_append : MethodName := ⟨RX5, "append", "(I)I"⟩
abbrev cX5_clearText : ByteArray := prog_1_method_12_code
def yX5_clearText : MethodName := ⟨RX5, "clearText", "()I"⟩
abbrev cX5_fault : ByteArray := prog_1_method_13_code
def yX5_fault : MethodName := ⟨RX5, "fault", "()I"⟩
abbrev cX5_run : ByteArray := prog_1_method_14_code
def yX5_run : MethodName := ⟨RX5, "run", "()I"⟩
abbrev cX5_undo : ByteArray := prog_1_method_15_code
def yX5_undo : MethodName := ⟨RX5, "undo", "()I"⟩
abbrev cX5_sessions : ByteArray := prog_1_method_16_code
def yX5_sessions : MethodName := ⟨RX5, "sessions", "()I"⟩
abbrev cX5_session : ByteArray := prog_1_method_17_code
def yX5_session : MethodName := ⟨RX5, "session", "(II)I"⟩
abbrev cX5_entry : ByteArray := prog_1_method_18_code
def yX5_entry : MethodName := ⟨RX5, "entry", "(III)I"⟩
abbrev cX5_valid : ByteArray := prog_1_method_19_code
def yX5_valid : MethodName := ⟨RX5, "valid", "()I"⟩
abbrev cX5_next : ByteArray := prog_1_method_20_code
def yX5_next : MethodName := ⟨RX5, "next", "()I"⟩
abbrev cX5_damaged : ByteArray := prog_1_method_21_code
def yX5_damaged : MethodName := ⟨RX5, "damaged", "(I)I"⟩
abbrev cX5_use : ByteArray := prog_1_method_22_code
def yX5_use : MethodName := ⟨RX5, "use", "(I)I"⟩
abbrev cX5_setting : ByteArray := prog_1_method_23_code
def yX5_setting : MethodName := ⟨RX5, "setting", "(I)I"⟩
abbrev cX5_find : ByteArray := prog_1_method_24_code
def yX5_find : MethodName := ⟨RX5, "find", "(I)I"⟩
abbrev cX5_intact : ByteArray := prog_1_method_25_code
def yX5_intact : MethodName := ⟨RX5, "intact", "(I)I"⟩
abbrev cX5_intactFiles : ByteArray := prog_1_method_26_code
def yX5_intactFiles : MethodName := ⟨RX5, "intactFiles", "()I"⟩
abbrev cX5_versions : ByteArray := prog_1_method_27_code
def yX5_versions : MethodName := ⟨RX5, "versions", "(I)I"⟩
abbrev cX5_latestIntact : ByteArray := prog_1_method_28_code
def yX5_latestIntact : MethodName := ⟨RX5, "latestIntact", "(I)I"⟩
abbrev cX5_lost : ByteArray := prog_1_method_29_code
def yX5_lost : MethodName := ⟨RX5, "lost", "()I"⟩
abbrev cX5_usedWell : ByteArray := prog_1_method_30_code
def yX5_usedWell : MethodName := ⟨RX5, "usedWell", "()F"⟩
abbrev cX5_largest : ByteArray := prog_1_method_31_code
def yX5_largest : MethodName := ⟨RX5, "largest", "()I"⟩
abbrev cX5_filesLeft : ByteArray := prog_1_method_32_code
def yX5_filesLeft : MethodName := ⟨RX5, "filesLeft", "(I)I"⟩
abbrev cX5_filesEach : ByteArray := prog_1_method_33_code
def yX5_filesEach : MethodName := ⟨RX5, "filesEach", "(I)I"⟩
abbrev cX5_validIf : ByteArray := prog_1_method_34_code
def yX5_validIf : MethodName := ⟨RX5, "validIf", "(I)I"⟩
abbrev cX5_worstSector : ByteArray := prog_1_method_35_code
def yX5_worstSector : MethodName := ⟨RX5, "worstSector", "()I"⟩
abbrev cX5_recorded : ByteArray := prog_1_method_36_code
def yX5_recorded : MethodName := ⟨RX5, "recorded", "(I)I"⟩
abbrev cX5_executeCommand : ByteArray := prog_1_method_37_code
def yX5_executeCommand : MethodName := ⟨RX5, "executeCommand", "()I"⟩
abbrev cX5_isError : ByteArray := prog_1_method_38_code
def yX5_isError : MethodName := ⟨RX5, "isError", "(I)Z"⟩
abbrev cX5_isName : ByteArray := prog_1_method_39_code
def yX5_isName : MethodName := ⟨RX5, "isName", "(I)Z"⟩
abbrev cX5_isSector : ByteArray := prog_1_method_40_code
def yX5_isSector : MethodName := ⟨RX5, "isSector", "(I)Z"⟩
abbrev cX5_isFileSize : ByteArray := prog_1_method_41_code
def yX5_isFileSize : MethodName := ⟨RX5, "isFileSize", "(I)Z"⟩
abbrev cX5_isSetting : ByteArray := prog_1_method_42_code
def yX5_isSetting : MethodName := ⟨RX5, "isSetting", "(I)Z"⟩
def RX6 : String := "WriteOnceDiscModel"
def TX6 : u_T := fun k => match k with
  | 0 => ("WriteOnceDiscModel", "s", "[I", true)
  | 1 => ("WriteOnceDiscModel", "before", "[I", true)
  | 2 => ("WriteOnceDiscModel", "past", "[I", true)
  | 3 => ("WriteOnceDiscModel", "known", "I", false)
  | 4 => ("WriteOnceDiscModel", "text", "[I", true)
  | 5 => ("WriteOnceDiscModel", "length", "I", false)
  | 6 => ("WriteOnceDiscModel", "spot", "I", false)
  | 7 => ("WriteOnceDiscModel", "isForm", "Z", false)
  | 8 => ("WriteOnceDiscModel", "letter", "I", false)
  | 9 => ("WriteOnceDiscModel", "first", "I", false)
  | _ => ("WriteOnceDiscModel", "second", "I", false)
def tyX6 : Nat → FieldType := fun k => match k with
  | 0 => .array .int
  | 1 => .array .int
  | 2 => .array .int
  | 3 => .int
  | 4 => .array .int
  | 5 => .int
  | 6 => .int
  | 7 => .boolean
  | 8 => .int
  | 9 => .int
  | _ => .int
abbrev wsX60 : List Cond := u_ws RX6 TX6 11
theorem nmX6 : ∀ a, a < 11 → ∀ b, b < 11 → a ≠ b → (TX6 a).2.1 ≠ (TX6 b).2.1 := by decide +kernel
theorem tyX6_ok : ∀ k, k < 11 → parseFieldDescriptor (TX6 k).2.2.1 = some (tyX6 k) := by decide +kernel
abbrev cX6_init : ByteArray := prog_8_method_1_code
def yX6_init : MethodName := ⟨RX6, "<init>", "()V"⟩
abbrev cX6_in : ByteArray := prog_8_method_3_code
def yX6_in : MethodName := ⟨RX6, "in", "(III)Z"⟩
abbrev cX6_copies : ByteArray := prog_8_method_4_code
def yX6_copies : MethodName := ⟨RX6, "copies", "([II[II)V"⟩
abbrev cX6_begins : ByteArray := prog_8_method_5_code
def yX6_begins : MethodName := ⟨RX6, "begins", "()V"⟩
abbrev cX6_records : ByteArray := prog_8_method_6_code
def yX6_records : MethodName := ⟨RX6, "records", "(I)I"⟩
abbrev cX6_isName : ByteArray := prog_8_method_7_code
def yX6_isName : MethodName := ⟨RX6, "isName", "(I)Z"⟩
abbrev cX6_isSector : ByteArray := prog_8_method_8_code
def yX6_isSector : MethodName := ⟨RX6, "isSector", "(I)Z"⟩
abbrev cX6_isSession : ByteArray := prog_8_method_9_code
def yX6_isSession : MethodName := ⟨RX6, "isSession", "(I)Z"⟩
abbrev cX6_of : ByteArray := prog_8_method_10_code
def yX6_of : MethodName := ⟨RX6, "of", "(II)I"⟩
abbrev cX6_lays : ByteArray := prog_8_method_11_code
def yX6_lays : MethodName := ⟨RX6, "lays", "(III)V"⟩
abbrev cX6_openOne : ByteArray := prog_8_method_12_code
def yX6_openOne : MethodName := ⟨RX6, "openOne", "()I"⟩
abbrev cX6_entryOf : ByteArray := prog_8_method_13_code
def yX6_entryOf : MethodName := ⟨RX6, "entryOf", "(II)I"⟩
abbrev cX6_firstOf : ByteArray := prog_8_method_14_code
def yX6_firstOf : MethodName := ⟨RX6, "firstOf", "(I)I"⟩
abbrev cX6_sizeOf : ByteArray := prog_8_method_15_code
def yX6_sizeOf : MethodName := ⟨RX6, "sizeOf", "(I)I"⟩
abbrev cX6_entries : ByteArray := prog_8_method_16_code
def yX6_entries : MethodName := ⟨RX6, "entries", "(I)I"⟩
abbrev cX6_isHurt : ByteArray := prog_8_method_17_code
def yX6_isHurt : MethodName := ⟨RX6, "isHurt", "(I)Z"⟩
abbrev cX6_isWhole : ByteArray := prog_8_method_18_code
def yX6_isWhole : MethodName := ⟨RX6, "isWhole", "(II)Z"⟩
abbrev cX6_isReadable : ByteArray := prog_8_method_19_code
def yX6_isReadable : MethodName := ⟨RX6, "isReadable", "(I)Z"⟩
abbrev cX6_validOne : ByteArray := prog_8_method_20_code
def yX6_validOne : MethodName := ⟨RX6, "validOne", "()I"⟩
abbrev cX6_isIntact : ByteArray := prog_8_method_21_code
def yX6_isIntact : MethodName := ⟨RX6, "isIntact", "(I)Z"⟩
abbrev cX6_sessionAt : ByteArray := prog_8_method_22_code
def yX6_sessionAt : MethodName := ⟨RX6, "sessionAt", "(I)I"⟩
abbrev cX6_takesSectors : ByteArray := prog_8_method_23_code
def yX6_takesSectors : MethodName := ⟨RX6, "takesSectors", "(II)V"⟩
abbrev cX6_goBegin : ByteArray := prog_8_method_24_code
def yX6_goBegin : MethodName := ⟨RX6, "goBegin", "(I)I"⟩
abbrev cX6_goWrite : ByteArray := prog_8_method_25_code
def yX6_goWrite : MethodName := ⟨RX6, "goWrite", "(II)I"⟩
abbrev cX6_goRemove : ByteArray := prog_8_method_26_code
def yX6_goRemove : MethodName := ⟨RX6, "goRemove", "(I)I"⟩
abbrev cX6_goKeep : ByteArray := prog_8_method_27_code
def yX6_goKeep : MethodName := ⟨RX6, "goKeep", "(II)I"⟩
abbrev cX6_closes : ByteArray := prog_8_method_28_code
def yX6_closes : MethodName := ⟨RX6, "closes", "(I)I"⟩
abbrev cX6_goClose : ByteArray := prog_8_method_29_code
def yX6_goClose : MethodName := ⟨RX6, "goClose", "()I"⟩
abbrev cX6_goEject : ByteArray := prog_8_method_30_code
def yX6_goEject : MethodName := ⟨RX6, "goEject", "()I"⟩
abbrev cX6_goRepair : ByteArray := prog_8_method_31_code
def yX6_goRepair : MethodName := ⟨RX6, "goRepair", "(I)I"⟩
abbrev cX6_damages : ByteArray := prog_8_method_32_code
def yX6_damages : MethodName := ⟨RX6, "damages", "()I"⟩
abbrev cX6_goDamage : ByteArray := prog_8_method_33_code
def yX6_goDamage : MethodName := ⟨RX6, "goDamage", "(I)I"⟩
abbrev cX6_goSet : ByteArray := prog_8_method_34_code
def yX6_goSet : MethodName := ⟨RX6, "goSet", "(II)I"⟩
abbrev cX6_begin : ByteArray := prog_8_method_35_code
def yX6_begin : MethodName := ⟨RX6, "begin", "(I)I"⟩
abbrev cX6_write : ByteArray := prog_8_method_36_code
def yX6_write : MethodName := ⟨RX6, "write", "(II)I"⟩
abbrev cX6_remove : ByteArray := prog_8_method_37_code
def yX6_remove : MethodName := ⟨RX6, "remove", "(I)I"⟩
abbrev cX6_keep : ByteArray := prog_8_method_38_code
def yX6_keep : MethodName := ⟨RX6, "keep", "(II)I"⟩
abbrev cX6_close : ByteArray := prog_8_method_39_code
def yX6_close : MethodName := ⟨RX6, "close", "()I"⟩
abbrev cX6_eject : ByteArray := prog_8_method_40_code
def yX6_eject : MethodName := ⟨RX6, "eject", "()I"⟩
abbrev cX6_repair : ByteArray := prog_8_method_41_code
def yX6_repair : MethodName := ⟨RX6, "repair", "(I)I"⟩
abbrev cX6_damage : ByteArray := prog_8_method_42_code
def yX6_damage : MethodName := ⟨RX6, "damage", "(I)I"⟩
abbrev cX6_set : ByteArray := prog_8_method_43_code
def yX6_set : MethodName := ⟨RX6, "set", "(II)I"⟩
abbrev cX6_append : ByteArray := prog_8_method_44_code
def yX6_append : MethodName := ⟨RX6, "append", "(I)I"⟩
abbrev cX6_clearText : ByteArray := prog_8_method_45_code
def yX6_clearText : MethodName := ⟨RX6, "clearText", "()I"⟩
abbrev cX6_here : ByteArray := prog_8_method_46_code
def yX6_here : MethodName := ⟨RX6, "here", "()I"⟩
abbrev cX6_takes : ByteArray := prog_8_method_47_code
def yX6_takes : MethodName := ⟨RX6, "takes", "(Z)V"⟩
abbrev cX6_takesNumber : ByteArray := prog_8_method_48_code
def yX6_takesNumber : MethodName := ⟨RX6, "takesNumber", "(II)I"⟩
abbrev cX6_takesCommand : ByteArray := prog_8_method_49_code
def yX6_takesCommand : MethodName := ⟨RX6, "takesCommand", "()V"⟩
abbrev cX6_isText : ByteArray := prog_8_method_50_code
def yX6_isText : MethodName := ⟨RX6, "isText", "()Z"⟩
abbrev cX6_fault : ByteArray := prog_8_method_51_code
def yX6_fault : MethodName := ⟨RX6, "fault", "()I"⟩
abbrev cX6_doesCommand : ByteArray := prog_8_method_52_code
def yX6_doesCommand : MethodName := ⟨RX6, "doesCommand", "()I"⟩
abbrev cX6_run : ByteArray := prog_8_method_53_code
def yX6_run : MethodName := ⟨RX6, "run", "()I"⟩
abbrev cX6_undo : ByteArray := prog_8_method_54_code
def yX6_undo : MethodName := ⟨RX6, "undo", "()I"⟩
abbrev cX6_sessions : ByteArray := prog_8_method_55_code
def yX6_sessions : MethodName := ⟨RX6, "sessions", "()I"⟩
abbrev cX6_session : ByteArray := prog_8_method_56_code
def yX6_session : MethodName := ⟨RX6, "session", "(II)I"⟩
abbrev cX6_entry : ByteArray := prog_8_method_57_code
def yX6_entry : MethodName := ⟨RX6, "entry", "(III)I"⟩
abbrev cX6_valid : ByteArray := prog_8_method_58_code
def yX6_valid : MethodName := ⟨RX6, "valid", "()I"⟩
abbrev cX6_next : ByteArray := prog_8_method_59_code
def yX6_next : MethodName := ⟨RX6, "next", "()I"⟩
abbrev cX6_damaged : ByteArray := prog_8_method_60_code
def yX6_damaged : MethodName := ⟨RX6, "damaged", "(I)I"⟩
abbrev cX6_use : ByteArray := prog_8_method_61_code
def yX6_use : MethodName := ⟨RX6, "use", "(I)I"⟩
abbrev cX6_setting : ByteArray := prog_8_method_62_code
def yX6_setting : MethodName := ⟨RX6, "setting", "(I)I"⟩
abbrev cX6_found : ByteArray := prog_8_method_63_code
def yX6_found : MethodName := ⟨RX6, "found", "(I)I"⟩
abbrev cX6_find : ByteArray := prog_8_method_64_code
def yX6_find : MethodName := ⟨RX6, "find", "(I)I"⟩
abbrev cX6_intact : ByteArray := prog_8_method_65_code
def yX6_intact : MethodName := ⟨RX6, "intact", "(I)I"⟩
abbrev cX6_wholeFiles : ByteArray := prog_8_method_66_code
def yX6_wholeFiles : MethodName := ⟨RX6, "wholeFiles", "()I"⟩
abbrev cX6_intactFiles : ByteArray := prog_8_method_67_code
def yX6_intactFiles : MethodName := ⟨RX6, "intactFiles", "()I"⟩
abbrev cX6_versions : ByteArray := prog_8_method_68_code
def yX6_versions : MethodName := ⟨RX6, "versions", "(I)I"⟩
abbrev cX6_latestIntact : ByteArray := prog_8_method_69_code
def yX6_latestIntact : MethodName := ⟨RX6, "latestIntact", "(I)I"⟩
abbrev cX6_foundSectors : ByteArray := prog_8_method_70_code
def yX6_foundSectors : MethodName := ⟨RX6, "foundSectors", "()I"⟩
abbrev cX6_lost : ByteArray := prog_8_method_71_code
def yX6_lost : MethodName := ⟨RX6, "lost", "()I"⟩
abbrev cX6_usedWell : ByteArray := prog_8_method_72_code
def yX6_usedWell : MethodName := ⟨RX6, "usedWell", "()F"⟩
abbrev cX6_room : ByteArray := prog_8_method_73_code
def yX6_room : MethodName := ⟨RX6, "room", "()I"⟩
abbrev cX6_largest : ByteArray := prog_8_method_74_code
def yX6_largest : MethodName := ⟨RX6, "largest", "()I"⟩
abbrev cX6_filesLeft : ByteArray := prog_8_method_75_code
def yX6_filesLeft : MethodName := ⟨RX6, "filesLeft", "(I)I"⟩
abbrev cX6_filesEach : ByteArray := prog_8_method_76_code
def yX6_filesEach : MethodName := ⟨RX6, "filesEach", "(I)I"⟩
abbrev cX6_hurtOf : ByteArray := prog_8_method_77_code
def yX6_hurtOf : MethodName := ⟨RX6, "hurtOf", "(I)I"⟩
abbrev cX6_validIf : ByteArray := prog_8_method_78_code
def yX6_validIf : MethodName := ⟨RX6, "validIf", "(I)I"⟩
abbrev cX6_worstSector : ByteArray := prog_8_method_79_code
def yX6_worstSector : MethodName := ⟨RX6, "worstSector", "()I"⟩
def RJ9 : String := "java/lang/Math"
abbrev cJ9_max_7cf53 : ByteArray := prog_9_method_65_code
def yJ9_max_7cf53 : MethodName := ⟨RJ9, "max", "(II)I"⟩
abbrev cJ9_min_7cf53 : ByteArray := prog_9_method_69_code
def yJ9_min_7cf53 : MethodName := ⟨RJ9, "min", "(II)I"⟩
def RL : String := "WriteOnceDiscLaw"
abbrev cL_law : ByteArray := code
def yL_law : MethodName := ⟨RL, "law", "([I)Z"⟩
abbrev vwCl : List vw_C := [(RX0, TX0, 6), (RX1, TX1, 7), (RX2, TX2, 3), (RX3, TX3, 7), (RX4, TX4, 3), (RX5, TX5, 3), (RX6, TX6, 11)]
end
section
theorem dX0_init_0 : decode cX0_init 0 = .ok (.aload_n 0, 1) := by decide +kernel
theorem dX0_init_1 : decode cX0_init 1 = .ok (.invokespecial 3, 3) := by decide +kernel
theorem dX0_init_4 : decode cX0_init 4 = .ok (.aload_n 0, 1) := by decide +kernel
theorem dX0_init_5 : decode cX0_init 5 = .ok (.bipush 80, 2) := by decide +kernel
theorem dX0_init_7 : decode cX0_init 7 = .ok (.newarray .char, 2) := by decide +kernel
theorem dX0_init_9 : decode cX0_init 9 = .ok (.putfield 9, 3) := by decide +kernel
theorem dX0_init_12 : decode cX0_init 12 = .ok (.return_, 1) := by decide +kernel
theorem dX0_addSign_0 : decode cX0_addSign 0 = .ok (.aload_n 0, 1) := by decide +kernel
theorem dX0_addSign_1 : decode cX0_addSign 1 = .ok (.getfield 15, 3) := by decide +kernel
theorem dX0_addSign_4 : decode cX0_addSign 4 = .ok (.bipush 80, 2) := by decide +kernel
theorem dX0_addSign_6 : decode cX0_addSign 6 = .ok (.if_icmp .lt 5, 3) := by decide +kernel
theorem dX0_addSign_9 : decode cX0_addSign 9 = .ok (.iconst 0, 1) := by decide +kernel
theorem dX0_addSign_10 : decode cX0_addSign 10 = .ok (.ireturn, 1) := by decide +kernel
theorem dX0_addSign_11 : decode cX0_addSign 11 = .ok (.aload_n 0, 1) := by decide +kernel
theorem dX0_addSign_12 : decode cX0_addSign 12 = .ok (.getfield 9, 3) := by decide +kernel
theorem dX0_addSign_15 : decode cX0_addSign 15 = .ok (.aload_n 0, 1) := by decide +kernel
theorem dX0_addSign_16 : decode cX0_addSign 16 = .ok (.getfield 15, 3) := by decide +kernel
theorem dX0_addSign_19 : decode cX0_addSign 19 = .ok (.iload_n 1, 1) := by decide +kernel
theorem dX0_addSign_20 : decode cX0_addSign 20 = .ok (.castore, 1) := by decide +kernel
theorem dX0_addSign_21 : decode cX0_addSign 21 = .ok (.aload_n 0, 1) := by decide +kernel
theorem dX0_addSign_22 : decode cX0_addSign 22 = .ok (.dup, 1) := by decide +kernel
theorem dX0_addSign_23 : decode cX0_addSign 23 = .ok (.getfield 15, 3) := by decide +kernel
theorem dX0_addSign_26 : decode cX0_addSign 26 = .ok (.iconst 1, 1) := by decide +kernel
theorem dX0_addSign_27 : decode cX0_addSign 27 = .ok (.iadd, 1) := by decide +kernel
theorem dX0_addSign_28 : decode cX0_addSign 28 = .ok (.putfield 15, 3) := by decide +kernel
theorem dX0_addSign_31 : decode cX0_addSign 31 = .ok (.iconst 1, 1) := by decide +kernel
theorem dX0_addSign_32 : decode cX0_addSign 32 = .ok (.ireturn, 1) := by decide +kernel
theorem dX0_firstFault_0 : decode cX0_firstFault 0 = .ok (.aload_n 0, 1) := by decide +kernel
theorem dX0_firstFault_1 : decode cX0_firstFault 1 = .ok (.iconst 0, 1) := by decide +kernel
theorem dX0_firstFault_2 : decode cX0_firstFault 2 = .ok (.putfield 19, 3) := by decide +kernel
theorem dX0_firstFault_5 : decode cX0_firstFault 5 = .ok (.iconst 0, 1) := by decide +kernel
theorem dX0_firstFault_6 : decode cX0_firstFault 6 = .ok (.istore_n 1, 1) := by decide +kernel
theorem dX0_firstFault_7 : decode cX0_firstFault 7 = .ok (.iload_n 1, 1) := by decide +kernel
theorem dX0_firstFault_8 : decode cX0_firstFault 8 = .ok (.bipush 80, 2) := by decide +kernel
theorem dX0_firstFault_10 : decode cX0_firstFault 10 = .ok (.if_icmp .ge 44, 3) := by decide +kernel
theorem dX0_firstFault_13 : decode cX0_firstFault 13 = .ok (.aload_n 0, 1) := by decide +kernel
theorem dX0_firstFault_14 : decode cX0_firstFault 14 = .ok (.invokevirtual 22, 3) := by decide +kernel
theorem dX0_firstFault_17 : decode cX0_firstFault 17 = .ok (.ifCond .eq 37, 3) := by decide +kernel
theorem dX0_firstFault_20 : decode cX0_firstFault 20 = .ok (.aload_n 0, 1) := by decide +kernel
theorem dX0_firstFault_21 : decode cX0_firstFault 21 = .ok (.getfield 19, 3) := by decide +kernel
theorem dX0_firstFault_24 : decode cX0_firstFault 24 = .ok (.aload_n 0, 1) := by decide +kernel
theorem dX0_firstFault_25 : decode cX0_firstFault 25 = .ok (.getfield 15, 3) := by decide +kernel
theorem dX0_firstFault_28 : decode cX0_firstFault 28 = .ok (.if_icmp .lt 6, 3) := by decide +kernel
theorem dX0_firstFault_31 : decode cX0_firstFault 31 = .ok (.bipush (-6), 2) := by decide +kernel
theorem dX0_firstFault_33 : decode cX0_firstFault 33 = .ok (.ireturn, 1) := by decide +kernel
theorem dX0_firstFault_34 : decode cX0_firstFault 34 = .ok (.aload_n 0, 1) := by decide +kernel
theorem dX0_firstFault_35 : decode cX0_firstFault 35 = .ok (.bipush 59, 2) := by decide +kernel
theorem dX0_firstFault_37 : decode cX0_firstFault 37 = .ok (.invokevirtual 26, 3) := by decide +kernel
theorem dX0_firstFault_40 : decode cX0_firstFault 40 = .ok (.ifCond .ne 8, 3) := by decide +kernel
theorem dX0_firstFault_43 : decode cX0_firstFault 43 = .ok (.aload_n 0, 1) := by decide +kernel
theorem dX0_firstFault_44 : decode cX0_firstFault 44 = .ok (.getfield 19, 3) := by decide +kernel
theorem dX0_firstFault_47 : decode cX0_firstFault 47 = .ok (.ireturn, 1) := by decide +kernel
theorem dX0_firstFault_48 : decode cX0_firstFault 48 = .ok (.iinc 1 1, 3) := by decide +kernel
theorem dX0_firstFault_51 : decode cX0_firstFault 51 = .ok (.goto (-44), 3) := by decide +kernel
theorem dX0_firstFault_54 : decode cX0_firstFault 54 = .ok (.aload_n 0, 1) := by decide +kernel
theorem dX0_firstFault_55 : decode cX0_firstFault 55 = .ok (.getfield 19, 3) := by decide +kernel
theorem dX0_firstFault_58 : decode cX0_firstFault 58 = .ok (.ireturn, 1) := by decide +kernel
theorem dX0_readCommand_0 : decode cX0_readCommand 0 = .ok (.aload_n 0, 1) := by decide +kernel
theorem dX0_readCommand_1 : decode cX0_readCommand 1 = .ok (.aload_n 0, 1) := by decide +kernel
theorem dX0_readCommand_2 : decode cX0_readCommand 2 = .ok (.invokevirtual 30, 3) := by decide +kernel
theorem dX0_readCommand_5 : decode cX0_readCommand 5 = .ok (.putfield 34, 3) := by decide +kernel
theorem dX0_readCommand_8 : decode cX0_readCommand 8 = .ok (.aload_n 0, 1) := by decide +kernel
theorem dX0_readCommand_9 : decode cX0_readCommand 9 = .ok (.getfield 34, 3) := by decide +kernel
theorem dX0_readCommand_12 : decode cX0_readCommand 12 = .ok (.tableswitch 255 98 119 #[104, 243, 225, 243, 255, 255, 255, 255, 255, 181, 255, 255, 255, 255, 255, 255, 164, 255, 255, 255, 255, 120], 104) := by decide +kernel
theorem dX0_readCommand_116 : decode cX0_readCommand 116 = .ok (.aload_n 0, 1) := by decide +kernel
theorem dX0_readCommand_117 : decode cX0_readCommand 117 = .ok (.dup, 1) := by decide +kernel
theorem dX0_readCommand_118 : decode cX0_readCommand 118 = .ok (.getfield 19, 3) := by decide +kernel
theorem dX0_readCommand_121 : decode cX0_readCommand 121 = .ok (.iconst 1, 1) := by decide +kernel
theorem dX0_readCommand_122 : decode cX0_readCommand 122 = .ok (.iadd, 1) := by decide +kernel
theorem dX0_readCommand_123 : decode cX0_readCommand 123 = .ok (.putfield 19, 3) := by decide +kernel
theorem dX0_readCommand_126 : decode cX0_readCommand 126 = .ok (.aload_n 0, 1) := by decide +kernel
theorem dX0_readCommand_127 : decode cX0_readCommand 127 = .ok (.iconst 1, 1) := by decide +kernel
theorem dX0_readCommand_128 : decode cX0_readCommand 128 = .ok (.invokevirtual 37, 3) := by decide +kernel
theorem dX0_readCommand_131 : decode cX0_readCommand 131 = .ok (.ireturn, 1) := by decide +kernel
theorem dX0_readCommand_132 : decode cX0_readCommand 132 = .ok (.aload_n 0, 1) := by decide +kernel
theorem dX0_readCommand_133 : decode cX0_readCommand 133 = .ok (.dup, 1) := by decide +kernel
theorem dX0_readCommand_134 : decode cX0_readCommand 134 = .ok (.getfield 19, 3) := by decide +kernel
theorem dX0_readCommand_137 : decode cX0_readCommand 137 = .ok (.iconst 1, 1) := by decide +kernel
theorem dX0_readCommand_138 : decode cX0_readCommand 138 = .ok (.iadd, 1) := by decide +kernel
theorem dX0_readCommand_139 : decode cX0_readCommand 139 = .ok (.putfield 19, 3) := by decide +kernel
theorem dX0_readCommand_142 : decode cX0_readCommand 142 = .ok (.aload_n 0, 1) := by decide +kernel
theorem dX0_readCommand_143 : decode cX0_readCommand 143 = .ok (.bipush 19, 2) := by decide +kernel
theorem dX0_readCommand_145 : decode cX0_readCommand 145 = .ok (.invokevirtual 37, 3) := by decide +kernel
theorem dX0_readCommand_148 : decode cX0_readCommand 148 = .ok (.ifCond .eq 26, 3) := by decide +kernel
theorem dX0_readCommand_151 : decode cX0_readCommand 151 = .ok (.aload_n 0, 1) := by decide +kernel
theorem dX0_readCommand_152 : decode cX0_readCommand 152 = .ok (.bipush 61, 2) := by decide +kernel
theorem dX0_readCommand_154 : decode cX0_readCommand 154 = .ok (.invokevirtual 26, 3) := by decide +kernel
theorem dX0_readCommand_157 : decode cX0_readCommand 157 = .ok (.ifCond .eq 17, 3) := by decide +kernel
theorem dX0_readCommand_160 : decode cX0_readCommand 160 = .ok (.aload_n 0, 1) := by decide +kernel
theorem dX0_readCommand_161 : decode cX0_readCommand 161 = .ok (.iconst 1, 1) := by decide +kernel
theorem dX0_readCommand_162 : decode cX0_readCommand 162 = .ok (.bipush 40, 2) := by decide +kernel
theorem dX0_readCommand_164 : decode cX0_readCommand 164 = .ok (.invokevirtual 41, 3) := by decide +kernel
theorem dX0_readCommand_167 : decode cX0_readCommand 167 = .ok (.ifCond .eq 7, 3) := by decide +kernel
theorem dX0_readCommand_170 : decode cX0_readCommand 170 = .ok (.iconst 1, 1) := by decide +kernel
theorem dX0_readCommand_171 : decode cX0_readCommand 171 = .ok (.goto 4, 3) := by decide +kernel
theorem dX0_readCommand_174 : decode cX0_readCommand 174 = .ok (.iconst 0, 1) := by decide +kernel
theorem dX0_readCommand_175 : decode cX0_readCommand 175 = .ok (.ireturn, 1) := by decide +kernel
theorem dX0_readCommand_176 : decode cX0_readCommand 176 = .ok (.aload_n 0, 1) := by decide +kernel
theorem dX0_readCommand_177 : decode cX0_readCommand 177 = .ok (.dup, 1) := by decide +kernel
theorem dX0_readCommand_178 : decode cX0_readCommand 178 = .ok (.getfield 19, 3) := by decide +kernel
theorem dX0_readCommand_181 : decode cX0_readCommand 181 = .ok (.iconst 1, 1) := by decide +kernel
theorem dX0_readCommand_182 : decode cX0_readCommand 182 = .ok (.iadd, 1) := by decide +kernel
theorem dX0_readCommand_183 : decode cX0_readCommand 183 = .ok (.putfield 19, 3) := by decide +kernel
theorem dX0_readCommand_186 : decode cX0_readCommand 186 = .ok (.aload_n 0, 1) := by decide +kernel
theorem dX0_readCommand_187 : decode cX0_readCommand 187 = .ok (.bipush 19, 2) := by decide +kernel
theorem dX0_readCommand_189 : decode cX0_readCommand 189 = .ok (.invokevirtual 37, 3) := by decide +kernel
theorem dX0_readCommand_192 : decode cX0_readCommand 192 = .ok (.ireturn, 1) := by decide +kernel
theorem dX0_readCommand_193 : decode cX0_readCommand 193 = .ok (.aload_n 0, 1) := by decide +kernel
theorem dX0_readCommand_194 : decode cX0_readCommand 194 = .ok (.dup, 1) := by decide +kernel
theorem dX0_readCommand_195 : decode cX0_readCommand 195 = .ok (.getfield 19, 3) := by decide +kernel
theorem dX0_readCommand_198 : decode cX0_readCommand 198 = .ok (.iconst 1, 1) := by decide +kernel
theorem dX0_readCommand_199 : decode cX0_readCommand 199 = .ok (.iadd, 1) := by decide +kernel
theorem dX0_readCommand_200 : decode cX0_readCommand 200 = .ok (.putfield 19, 3) := by decide +kernel
theorem dX0_readCommand_203 : decode cX0_readCommand 203 = .ok (.aload_n 0, 1) := by decide +kernel
theorem dX0_readCommand_204 : decode cX0_readCommand 204 = .ok (.bipush 19, 2) := by decide +kernel
theorem dX0_readCommand_206 : decode cX0_readCommand 206 = .ok (.invokevirtual 37, 3) := by decide +kernel
theorem dX0_readCommand_209 : decode cX0_readCommand 209 = .ok (.ifCond .eq 26, 3) := by decide +kernel
theorem dX0_readCommand_212 : decode cX0_readCommand 212 = .ok (.aload_n 0, 1) := by decide +kernel
theorem dX0_readCommand_213 : decode cX0_readCommand 213 = .ok (.bipush 46, 2) := by decide +kernel
theorem dX0_readCommand_215 : decode cX0_readCommand 215 = .ok (.invokevirtual 26, 3) := by decide +kernel
theorem dX0_readCommand_218 : decode cX0_readCommand 218 = .ok (.ifCond .eq 17, 3) := by decide +kernel
theorem dX0_readCommand_221 : decode cX0_readCommand 221 = .ok (.aload_n 0, 1) := by decide +kernel
theorem dX0_readCommand_222 : decode cX0_readCommand 222 = .ok (.iconst 0, 1) := by decide +kernel
theorem dX0_readCommand_223 : decode cX0_readCommand 223 = .ok (.bipush 11, 2) := by decide +kernel
theorem dX0_readCommand_225 : decode cX0_readCommand 225 = .ok (.invokevirtual 41, 3) := by decide +kernel
theorem dX0_readCommand_228 : decode cX0_readCommand 228 = .ok (.ifCond .eq 7, 3) := by decide +kernel
theorem dX0_readCommand_231 : decode cX0_readCommand 231 = .ok (.iconst 1, 1) := by decide +kernel
theorem dX0_readCommand_232 : decode cX0_readCommand 232 = .ok (.goto 4, 3) := by decide +kernel
theorem dX0_readCommand_235 : decode cX0_readCommand 235 = .ok (.iconst 0, 1) := by decide +kernel
theorem dX0_readCommand_236 : decode cX0_readCommand 236 = .ok (.ireturn, 1) := by decide +kernel
theorem dX0_readCommand_237 : decode cX0_readCommand 237 = .ok (.aload_n 0, 1) := by decide +kernel
theorem dX0_readCommand_238 : decode cX0_readCommand 238 = .ok (.dup, 1) := by decide +kernel
theorem dX0_readCommand_239 : decode cX0_readCommand 239 = .ok (.getfield 19, 3) := by decide +kernel
theorem dX0_readCommand_242 : decode cX0_readCommand 242 = .ok (.iconst 1, 1) := by decide +kernel
theorem dX0_readCommand_243 : decode cX0_readCommand 243 = .ok (.iadd, 1) := by decide +kernel
theorem dX0_readCommand_244 : decode cX0_readCommand 244 = .ok (.putfield 19, 3) := by decide +kernel
theorem dX0_readCommand_247 : decode cX0_readCommand 247 = .ok (.aload_n 0, 1) := by decide +kernel
theorem dX0_readCommand_248 : decode cX0_readCommand 248 = .ok (.sipush 239, 3) := by decide +kernel
theorem dX0_readCommand_251 : decode cX0_readCommand 251 = .ok (.invokevirtual 37, 3) := by decide +kernel
theorem dX0_readCommand_254 : decode cX0_readCommand 254 = .ok (.ireturn, 1) := by decide +kernel
theorem dX0_readCommand_255 : decode cX0_readCommand 255 = .ok (.aload_n 0, 1) := by decide +kernel
theorem dX0_readCommand_256 : decode cX0_readCommand 256 = .ok (.dup, 1) := by decide +kernel
theorem dX0_readCommand_257 : decode cX0_readCommand 257 = .ok (.getfield 19, 3) := by decide +kernel
theorem dX0_readCommand_260 : decode cX0_readCommand 260 = .ok (.iconst 1, 1) := by decide +kernel
theorem dX0_readCommand_261 : decode cX0_readCommand 261 = .ok (.iadd, 1) := by decide +kernel
theorem dX0_readCommand_262 : decode cX0_readCommand 262 = .ok (.putfield 19, 3) := by decide +kernel
theorem dX0_readCommand_265 : decode cX0_readCommand 265 = .ok (.iconst 1, 1) := by decide +kernel
theorem dX0_readCommand_266 : decode cX0_readCommand 266 = .ok (.ireturn, 1) := by decide +kernel
theorem dX0_readCommand_267 : decode cX0_readCommand 267 = .ok (.iconst 0, 1) := by decide +kernel
theorem dX0_readCommand_268 : decode cX0_readCommand 268 = .ok (.ireturn, 1) := by decide +kernel
theorem dX0_readSign_0 : decode cX0_readSign 0 = .ok (.aload_n 0, 1) := by decide +kernel
theorem dX0_readSign_1 : decode cX0_readSign 1 = .ok (.invokevirtual 30, 3) := by decide +kernel
theorem dX0_readSign_4 : decode cX0_readSign 4 = .ok (.iload_n 1, 1) := by decide +kernel
theorem dX0_readSign_5 : decode cX0_readSign 5 = .ok (.if_icmp .eq 5, 3) := by decide +kernel
theorem dX0_readSign_8 : decode cX0_readSign 8 = .ok (.iconst 0, 1) := by decide +kernel
theorem dX0_readSign_9 : decode cX0_readSign 9 = .ok (.ireturn, 1) := by decide +kernel
theorem dX0_readSign_10 : decode cX0_readSign 10 = .ok (.aload_n 0, 1) := by decide +kernel
theorem dX0_readSign_11 : decode cX0_readSign 11 = .ok (.dup, 1) := by decide +kernel
theorem dX0_readSign_12 : decode cX0_readSign 12 = .ok (.getfield 19, 3) := by decide +kernel
theorem dX0_readSign_15 : decode cX0_readSign 15 = .ok (.iconst 1, 1) := by decide +kernel
theorem dX0_readSign_16 : decode cX0_readSign 16 = .ok (.iadd, 1) := by decide +kernel
theorem dX0_readSign_17 : decode cX0_readSign 17 = .ok (.putfield 19, 3) := by decide +kernel
theorem dX0_readSign_20 : decode cX0_readSign 20 = .ok (.iconst 1, 1) := by decide +kernel
theorem dX0_readSign_21 : decode cX0_readSign 21 = .ok (.ireturn, 1) := by decide +kernel
theorem dX0_readFirst_0 : decode cX0_readFirst 0 = .ok (.aload_n 0, 1) := by decide +kernel
theorem dX0_readFirst_1 : decode cX0_readFirst 1 = .ok (.aload_n 0, 1) := by decide +kernel
theorem dX0_readFirst_2 : decode cX0_readFirst 2 = .ok (.iconst 0, 1) := by decide +kernel
theorem dX0_readFirst_3 : decode cX0_readFirst 3 = .ok (.iload_n 1, 1) := by decide +kernel
theorem dX0_readFirst_4 : decode cX0_readFirst 4 = .ok (.invokevirtual 45, 3) := by decide +kernel
theorem dX0_readFirst_7 : decode cX0_readFirst 7 = .ok (.putfield 49, 3) := by decide +kernel
theorem dX0_readFirst_10 : decode cX0_readFirst 10 = .ok (.aload_n 0, 1) := by decide +kernel
theorem dX0_readFirst_11 : decode cX0_readFirst 11 = .ok (.getfield 49, 3) := by decide +kernel
theorem dX0_readFirst_14 : decode cX0_readFirst 14 = .ok (.bipush (-6), 2) := by decide +kernel
theorem dX0_readFirst_16 : decode cX0_readFirst 16 = .ok (.if_icmp .eq 7, 3) := by decide +kernel
theorem dX0_readFirst_19 : decode cX0_readFirst 19 = .ok (.iconst 1, 1) := by decide +kernel
theorem dX0_readFirst_20 : decode cX0_readFirst 20 = .ok (.goto 4, 3) := by decide +kernel
theorem dX0_readFirst_23 : decode cX0_readFirst 23 = .ok (.iconst 0, 1) := by decide +kernel
theorem dX0_readFirst_24 : decode cX0_readFirst 24 = .ok (.ireturn, 1) := by decide +kernel
theorem dX0_readSecond_0 : decode cX0_readSecond 0 = .ok (.aload_n 0, 1) := by decide +kernel
theorem dX0_readSecond_1 : decode cX0_readSecond 1 = .ok (.aload_n 0, 1) := by decide +kernel
theorem dX0_readSecond_2 : decode cX0_readSecond 2 = .ok (.iload_n 1, 1) := by decide +kernel
theorem dX0_readSecond_3 : decode cX0_readSecond 3 = .ok (.iload_n 2, 1) := by decide +kernel
theorem dX0_readSecond_4 : decode cX0_readSecond 4 = .ok (.invokevirtual 45, 3) := by decide +kernel
theorem dX0_readSecond_7 : decode cX0_readSecond 7 = .ok (.putfield 52, 3) := by decide +kernel
theorem dX0_readSecond_10 : decode cX0_readSecond 10 = .ok (.aload_n 0, 1) := by decide +kernel
theorem dX0_readSecond_11 : decode cX0_readSecond 11 = .ok (.getfield 52, 3) := by decide +kernel
theorem dX0_readSecond_14 : decode cX0_readSecond 14 = .ok (.bipush (-6), 2) := by decide +kernel
theorem dX0_readSecond_16 : decode cX0_readSecond 16 = .ok (.if_icmp .eq 7, 3) := by decide +kernel
theorem dX0_readSecond_19 : decode cX0_readSecond 19 = .ok (.iconst 1, 1) := by decide +kernel
theorem dX0_readSecond_20 : decode cX0_readSecond 20 = .ok (.goto 4, 3) := by decide +kernel
theorem dX0_readSecond_23 : decode cX0_readSecond 23 = .ok (.iconst 0, 1) := by decide +kernel
theorem dX0_readSecond_24 : decode cX0_readSecond 24 = .ok (.ireturn, 1) := by decide +kernel
theorem dX0_readNumber_0 : decode cX0_readNumber 0 = .ok (.aload_n 0, 1) := by decide +kernel
theorem dX0_readNumber_1 : decode cX0_readNumber 1 = .ok (.invokevirtual 55, 3) := by decide +kernel
theorem dX0_readNumber_4 : decode cX0_readNumber 4 = .ok (.istore_n 3, 1) := by decide +kernel
theorem dX0_readNumber_5 : decode cX0_readNumber 5 = .ok (.iload_n 3, 1) := by decide +kernel
theorem dX0_readNumber_6 : decode cX0_readNumber 6 = .ok (.iload_n 1, 1) := by decide +kernel
theorem dX0_readNumber_7 : decode cX0_readNumber 7 = .ok (.if_icmp .lt 8, 3) := by decide +kernel
theorem dX0_readNumber_10 : decode cX0_readNumber 10 = .ok (.iload_n 3, 1) := by decide +kernel
theorem dX0_readNumber_11 : decode cX0_readNumber 11 = .ok (.iload_n 2, 1) := by decide +kernel
theorem dX0_readNumber_12 : decode cX0_readNumber 12 = .ok (.if_icmp .le 6, 3) := by decide +kernel
theorem dX0_readNumber_15 : decode cX0_readNumber 15 = .ok (.bipush (-6), 2) := by decide +kernel
theorem dX0_readNumber_17 : decode cX0_readNumber 17 = .ok (.ireturn, 1) := by decide +kernel
theorem dX0_readNumber_18 : decode cX0_readNumber 18 = .ok (.aload_n 0, 1) := by decide +kernel
theorem dX0_readNumber_19 : decode cX0_readNumber 19 = .ok (.dup, 1) := by decide +kernel
theorem dX0_readNumber_20 : decode cX0_readNumber 20 = .ok (.getfield 19, 3) := by decide +kernel
theorem dX0_readNumber_23 : decode cX0_readNumber 23 = .ok (.iconst 1, 1) := by decide +kernel
theorem dX0_readNumber_24 : decode cX0_readNumber 24 = .ok (.iadd, 1) := by decide +kernel
theorem dX0_readNumber_25 : decode cX0_readNumber 25 = .ok (.putfield 19, 3) := by decide +kernel
theorem dX0_readNumber_28 : decode cX0_readNumber 28 = .ok (.iconst 0, 1) := by decide +kernel
theorem dX0_readNumber_29 : decode cX0_readNumber 29 = .ok (.istore 4, 2) := by decide +kernel
theorem dX0_readNumber_31 : decode cX0_readNumber 31 = .ok (.iload 4, 2) := by decide +kernel
theorem dX0_readNumber_33 : decode cX0_readNumber 33 = .ok (.bipush 80, 2) := by decide +kernel
theorem dX0_readNumber_35 : decode cX0_readNumber 35 = .ok (.if_icmp .ge 55, 3) := by decide +kernel
theorem dX0_readNumber_38 : decode cX0_readNumber 38 = .ok (.iload_n 3, 1) := by decide +kernel
theorem dX0_readNumber_39 : decode cX0_readNumber 39 = .ok (.ifCond .le 51, 3) := by decide +kernel
theorem dX0_readNumber_42 : decode cX0_readNumber 42 = .ok (.aload_n 0, 1) := by decide +kernel
theorem dX0_readNumber_43 : decode cX0_readNumber 43 = .ok (.invokevirtual 55, 3) := by decide +kernel
theorem dX0_readNumber_46 : decode cX0_readNumber 46 = .ok (.istore 5, 2) := by decide +kernel
theorem dX0_readNumber_48 : decode cX0_readNumber 48 = .ok (.iload 5, 2) := by decide +kernel
theorem dX0_readNumber_50 : decode cX0_readNumber 50 = .ok (.ifCond .lt 14, 3) := by decide +kernel
theorem dX0_readNumber_53 : decode cX0_readNumber 53 = .ok (.iload_n 3, 1) := by decide +kernel
theorem dX0_readNumber_54 : decode cX0_readNumber 54 = .ok (.bipush 10, 2) := by decide +kernel
theorem dX0_readNumber_56 : decode cX0_readNumber 56 = .ok (.imul, 1) := by decide +kernel
theorem dX0_readNumber_57 : decode cX0_readNumber 57 = .ok (.iload 5, 2) := by decide +kernel
theorem dX0_readNumber_59 : decode cX0_readNumber 59 = .ok (.iadd, 1) := by decide +kernel
theorem dX0_readNumber_60 : decode cX0_readNumber 60 = .ok (.iload_n 2, 1) := by decide +kernel
theorem dX0_readNumber_61 : decode cX0_readNumber 61 = .ok (.if_icmp .le 5, 3) := by decide +kernel
theorem dX0_readNumber_64 : decode cX0_readNumber 64 = .ok (.iload_n 3, 1) := by decide +kernel
theorem dX0_readNumber_65 : decode cX0_readNumber 65 = .ok (.ireturn, 1) := by decide +kernel
theorem dX0_readNumber_66 : decode cX0_readNumber 66 = .ok (.iload_n 3, 1) := by decide +kernel
theorem dX0_readNumber_67 : decode cX0_readNumber 67 = .ok (.bipush 10, 2) := by decide +kernel
theorem dX0_readNumber_69 : decode cX0_readNumber 69 = .ok (.imul, 1) := by decide +kernel
theorem dX0_readNumber_70 : decode cX0_readNumber 70 = .ok (.iload 5, 2) := by decide +kernel
theorem dX0_readNumber_72 : decode cX0_readNumber 72 = .ok (.iadd, 1) := by decide +kernel
theorem dX0_readNumber_73 : decode cX0_readNumber 73 = .ok (.istore_n 3, 1) := by decide +kernel
theorem dX0_readNumber_74 : decode cX0_readNumber 74 = .ok (.aload_n 0, 1) := by decide +kernel
theorem dX0_readNumber_75 : decode cX0_readNumber 75 = .ok (.dup, 1) := by decide +kernel
theorem dX0_readNumber_76 : decode cX0_readNumber 76 = .ok (.getfield 19, 3) := by decide +kernel
theorem dX0_readNumber_79 : decode cX0_readNumber 79 = .ok (.iconst 1, 1) := by decide +kernel
theorem dX0_readNumber_80 : decode cX0_readNumber 80 = .ok (.iadd, 1) := by decide +kernel
theorem dX0_readNumber_81 : decode cX0_readNumber 81 = .ok (.putfield 19, 3) := by decide +kernel
theorem dX0_readNumber_84 : decode cX0_readNumber 84 = .ok (.iinc 4 1, 3) := by decide +kernel
theorem dX0_readNumber_87 : decode cX0_readNumber 87 = .ok (.goto (-56), 3) := by decide +kernel
theorem dX0_readNumber_90 : decode cX0_readNumber 90 = .ok (.iload_n 3, 1) := by decide +kernel
theorem dX0_readNumber_91 : decode cX0_readNumber 91 = .ok (.ireturn, 1) := by decide +kernel
theorem dX0_digitAt_0 : decode cX0_digitAt 0 = .ok (.aload_n 0, 1) := by decide +kernel
theorem dX0_digitAt_1 : decode cX0_digitAt 1 = .ok (.invokevirtual 30, 3) := by decide +kernel
theorem dX0_digitAt_4 : decode cX0_digitAt 4 = .ok (.istore_n 1, 1) := by decide +kernel
theorem dX0_digitAt_5 : decode cX0_digitAt 5 = .ok (.iload_n 1, 1) := by decide +kernel
theorem dX0_digitAt_6 : decode cX0_digitAt 6 = .ok (.bipush 48, 2) := by decide +kernel
theorem dX0_digitAt_8 : decode cX0_digitAt 8 = .ok (.if_icmp .lt 16, 3) := by decide +kernel
theorem dX0_digitAt_11 : decode cX0_digitAt 11 = .ok (.iload_n 1, 1) := by decide +kernel
theorem dX0_digitAt_12 : decode cX0_digitAt 12 = .ok (.bipush 57, 2) := by decide +kernel
theorem dX0_digitAt_14 : decode cX0_digitAt 14 = .ok (.if_icmp .gt 10, 3) := by decide +kernel
theorem dX0_digitAt_17 : decode cX0_digitAt 17 = .ok (.iload_n 1, 1) := by decide +kernel
theorem dX0_digitAt_18 : decode cX0_digitAt 18 = .ok (.bipush 48, 2) := by decide +kernel
theorem dX0_digitAt_20 : decode cX0_digitAt 20 = .ok (.isub, 1) := by decide +kernel
theorem dX0_digitAt_21 : decode cX0_digitAt 21 = .ok (.goto 5, 3) := by decide +kernel
theorem dX0_digitAt_24 : decode cX0_digitAt 24 = .ok (.bipush (-6), 2) := by decide +kernel
theorem dX0_digitAt_26 : decode cX0_digitAt 26 = .ok (.ireturn, 1) := by decide +kernel
theorem dX0_signAt_0 : decode cX0_signAt 0 = .ok (.aload_n 0, 1) := by decide +kernel
theorem dX0_signAt_1 : decode cX0_signAt 1 = .ok (.getfield 19, 3) := by decide +kernel
theorem dX0_signAt_4 : decode cX0_signAt 4 = .ok (.ifCond .lt 35, 3) := by decide +kernel
theorem dX0_signAt_7 : decode cX0_signAt 7 = .ok (.aload_n 0, 1) := by decide +kernel
theorem dX0_signAt_8 : decode cX0_signAt 8 = .ok (.getfield 19, 3) := by decide +kernel
theorem dX0_signAt_11 : decode cX0_signAt 11 = .ok (.aload_n 0, 1) := by decide +kernel
theorem dX0_signAt_12 : decode cX0_signAt 12 = .ok (.getfield 15, 3) := by decide +kernel
theorem dX0_signAt_15 : decode cX0_signAt 15 = .ok (.if_icmp .ge 24, 3) := by decide +kernel
theorem dX0_signAt_18 : decode cX0_signAt 18 = .ok (.aload_n 0, 1) := by decide +kernel
theorem dX0_signAt_19 : decode cX0_signAt 19 = .ok (.getfield 19, 3) := by decide +kernel
theorem dX0_signAt_22 : decode cX0_signAt 22 = .ok (.bipush 80, 2) := by decide +kernel
theorem dX0_signAt_24 : decode cX0_signAt 24 = .ok (.if_icmp .ge 15, 3) := by decide +kernel
theorem dX0_signAt_27 : decode cX0_signAt 27 = .ok (.aload_n 0, 1) := by decide +kernel
theorem dX0_signAt_28 : decode cX0_signAt 28 = .ok (.getfield 9, 3) := by decide +kernel
theorem dX0_signAt_31 : decode cX0_signAt 31 = .ok (.aload_n 0, 1) := by decide +kernel
theorem dX0_signAt_32 : decode cX0_signAt 32 = .ok (.getfield 19, 3) := by decide +kernel
theorem dX0_signAt_35 : decode cX0_signAt 35 = .ok (.caload, 1) := by decide +kernel
theorem dX0_signAt_36 : decode cX0_signAt 36 = .ok (.goto 5, 3) := by decide +kernel
theorem dX0_signAt_39 : decode cX0_signAt 39 = .ok (.bipush (-6), 2) := by decide +kernel
theorem dX0_signAt_41 : decode cX0_signAt 41 = .ok (.ireturn, 1) := by decide +kernel
theorem dX1_init_0 : decode cX1_init 0 = .ok (.aload_n 0, 1) := by decide +kernel
theorem dX1_init_1 : decode cX1_init 1 = .ok (.invokespecial 3, 3) := by decide +kernel
theorem dX1_init_4 : decode cX1_init 4 = .ok (.aload_n 0, 1) := by decide +kernel
theorem dX1_init_5 : decode cX1_init 5 = .ok (.bipush 12, 2) := by decide +kernel
theorem dX1_init_7 : decode cX1_init 7 = .ok (.anewarray 9, 3) := by decide +kernel
theorem dX1_init_10 : decode cX1_init 10 = .ok (.putfield 11, 3) := by decide +kernel
theorem dX1_init_13 : decode cX1_init 13 = .ok (.aload_n 0, 1) := by decide +kernel
theorem dX1_init_14 : decode cX1_init 14 = .ok (.sipush 240, 3) := by decide +kernel
theorem dX1_init_17 : decode cX1_init 17 = .ok (.newarray .boolean, 2) := by decide +kernel
theorem dX1_init_19 : decode cX1_init 19 = .ok (.putfield 17, 3) := by decide +kernel
theorem dX1_init_22 : decode cX1_init 22 = .ok (.aload_n 0, 1) := by decide +kernel
theorem dX1_init_23 : decode cX1_init 23 = .ok (.bipush 20, 2) := by decide +kernel
theorem dX1_init_25 : decode cX1_init 25 = .ok (.newarray .int, 2) := by decide +kernel
theorem dX1_init_27 : decode cX1_init 27 = .ok (.putfield 21, 3) := by decide +kernel
theorem dX1_init_30 : decode cX1_init 30 = .ok (.aload_n 0, 1) := by decide +kernel
theorem dX1_init_31 : decode cX1_init 31 = .ok (.iconst 2, 1) := by decide +kernel
theorem dX1_init_32 : decode cX1_init 32 = .ok (.newarray .int, 2) := by decide +kernel
theorem dX1_init_34 : decode cX1_init 34 = .ok (.putfield 25, 3) := by decide +kernel
theorem dX1_init_37 : decode cX1_init 37 = .ok (.aload_n 0, 1) := by decide +kernel
theorem dX1_init_38 : decode cX1_init 38 = .ok (.getfield 25, 3) := by decide +kernel
theorem dX1_init_41 : decode cX1_init 41 = .ok (.iconst 0, 1) := by decide +kernel
theorem dX1_init_42 : decode cX1_init 42 = .ok (.iconst 4, 1) := by decide +kernel
theorem dX1_init_43 : decode cX1_init 43 = .ok (.iastore, 1) := by decide +kernel
theorem dX1_init_44 : decode cX1_init 44 = .ok (.aload_n 0, 1) := by decide +kernel
theorem dX1_init_45 : decode cX1_init 45 = .ok (.getfield 25, 3) := by decide +kernel
theorem dX1_init_48 : decode cX1_init 48 = .ok (.iconst 1, 1) := by decide +kernel
theorem dX1_init_49 : decode cX1_init 49 = .ok (.iconst 3, 1) := by decide +kernel
theorem dX1_init_50 : decode cX1_init 50 = .ok (.iastore, 1) := by decide +kernel
theorem dX1_init_51 : decode cX1_init 51 = .ok (.iconst 0, 1) := by decide +kernel
theorem dX1_init_52 : decode cX1_init 52 = .ok (.istore_n 1, 1) := by decide +kernel
theorem dX1_init_53 : decode cX1_init 53 = .ok (.iload_n 1, 1) := by decide +kernel
theorem dX1_init_54 : decode cX1_init 54 = .ok (.bipush 12, 2) := by decide +kernel
theorem dX1_init_56 : decode cX1_init 56 = .ok (.if_icmp .ge 22, 3) := by decide +kernel
theorem dX1_init_59 : decode cX1_init 59 = .ok (.aload_n 0, 1) := by decide +kernel
theorem dX1_init_60 : decode cX1_init 60 = .ok (.getfield 11, 3) := by decide +kernel
theorem dX1_init_63 : decode cX1_init 63 = .ok (.iload_n 1, 1) := by decide +kernel
theorem dX1_init_64 : decode cX1_init 64 = .ok (.new 9, 3) := by decide +kernel
theorem dX1_init_67 : decode cX1_init 67 = .ok (.dup, 1) := by decide +kernel
theorem dX1_init_68 : decode cX1_init 68 = .ok (.invokespecial 28, 3) := by decide +kernel
theorem dX1_init_71 : decode cX1_init 71 = .ok (.aastore, 1) := by decide +kernel
theorem dX1_init_72 : decode cX1_init 72 = .ok (.iinc 1 1, 3) := by decide +kernel
theorem dX1_init_75 : decode cX1_init 75 = .ok (.goto (-22), 3) := by decide +kernel
theorem dX1_init_78 : decode cX1_init 78 = .ok (.return_, 1) := by decide +kernel
theorem dX1_copyAll_0 : decode cX1_copyAll 0 = .ok (.aload_n 0, 1) := by decide +kernel
theorem dX1_copyAll_1 : decode cX1_copyAll 1 = .ok (.aload_n 1, 1) := by decide +kernel
theorem dX1_copyAll_2 : decode cX1_copyAll 2 = .ok (.getfield 29, 3) := by decide +kernel
theorem dX1_copyAll_5 : decode cX1_copyAll 5 = .ok (.putfield 29, 3) := by decide +kernel
theorem dX1_copyAll_8 : decode cX1_copyAll 8 = .ok (.aload_n 0, 1) := by decide +kernel
theorem dX1_copyAll_9 : decode cX1_copyAll 9 = .ok (.aload_n 1, 1) := by decide +kernel
theorem dX1_copyAll_10 : decode cX1_copyAll 10 = .ok (.getfield 33, 3) := by decide +kernel
theorem dX1_copyAll_13 : decode cX1_copyAll 13 = .ok (.putfield 33, 3) := by decide +kernel
theorem dX1_copyAll_16 : decode cX1_copyAll 16 = .ok (.aload_n 0, 1) := by decide +kernel
theorem dX1_copyAll_17 : decode cX1_copyAll 17 = .ok (.aload_n 1, 1) := by decide +kernel
theorem dX1_copyAll_18 : decode cX1_copyAll 18 = .ok (.getfield 36, 3) := by decide +kernel
theorem dX1_copyAll_21 : decode cX1_copyAll 21 = .ok (.putfield 36, 3) := by decide +kernel
theorem dX1_copyAll_24 : decode cX1_copyAll 24 = .ok (.iconst 0, 1) := by decide +kernel
theorem dX1_copyAll_25 : decode cX1_copyAll 25 = .ok (.istore_n 2, 1) := by decide +kernel
theorem dX1_copyAll_26 : decode cX1_copyAll 26 = .ok (.iload_n 2, 1) := by decide +kernel
theorem dX1_copyAll_27 : decode cX1_copyAll 27 = .ok (.bipush 12, 2) := by decide +kernel
theorem dX1_copyAll_29 : decode cX1_copyAll 29 = .ok (.if_icmp .ge 32, 3) := by decide +kernel
theorem dX1_copyAll_32 : decode cX1_copyAll 32 = .ok (.iload_n 2, 1) := by decide +kernel
theorem dX1_copyAll_33 : decode cX1_copyAll 33 = .ok (.aload_n 0, 1) := by decide +kernel
theorem dX1_copyAll_34 : decode cX1_copyAll 34 = .ok (.getfield 29, 3) := by decide +kernel
theorem dX1_copyAll_37 : decode cX1_copyAll 37 = .ok (.if_icmp .ge 24, 3) := by decide +kernel
theorem dX1_copyAll_40 : decode cX1_copyAll 40 = .ok (.aload_n 0, 1) := by decide +kernel
theorem dX1_copyAll_41 : decode cX1_copyAll 41 = .ok (.getfield 11, 3) := by decide +kernel
theorem dX1_copyAll_44 : decode cX1_copyAll 44 = .ok (.iload_n 2, 1) := by decide +kernel
theorem dX1_copyAll_45 : decode cX1_copyAll 45 = .ok (.aaload, 1) := by decide +kernel
theorem dX1_copyAll_46 : decode cX1_copyAll 46 = .ok (.aload_n 1, 1) := by decide +kernel
theorem dX1_copyAll_47 : decode cX1_copyAll 47 = .ok (.getfield 11, 3) := by decide +kernel
theorem dX1_copyAll_50 : decode cX1_copyAll 50 = .ok (.iload_n 2, 1) := by decide +kernel
theorem dX1_copyAll_51 : decode cX1_copyAll 51 = .ok (.aaload, 1) := by decide +kernel
theorem dX1_copyAll_52 : decode cX1_copyAll 52 = .ok (.invokevirtual 39, 3) := by decide +kernel
theorem dX1_copyAll_55 : decode cX1_copyAll 55 = .ok (.iinc 2 1, 3) := by decide +kernel
theorem dX1_copyAll_58 : decode cX1_copyAll 58 = .ok (.goto (-32), 3) := by decide +kernel
theorem dX1_copyAll_61 : decode cX1_copyAll 61 = .ok (.iconst 0, 1) := by decide +kernel
theorem dX1_copyAll_62 : decode cX1_copyAll 62 = .ok (.istore_n 2, 1) := by decide +kernel
theorem dX1_copyAll_63 : decode cX1_copyAll 63 = .ok (.iload_n 2, 1) := by decide +kernel
theorem dX1_copyAll_64 : decode cX1_copyAll 64 = .ok (.sipush 240, 3) := by decide +kernel
theorem dX1_copyAll_67 : decode cX1_copyAll 67 = .ok (.if_icmp .ge 21, 3) := by decide +kernel
theorem dX1_copyAll_70 : decode cX1_copyAll 70 = .ok (.aload_n 0, 1) := by decide +kernel
theorem dX1_copyAll_71 : decode cX1_copyAll 71 = .ok (.getfield 17, 3) := by decide +kernel
theorem dX1_copyAll_74 : decode cX1_copyAll 74 = .ok (.iload_n 2, 1) := by decide +kernel
theorem dX1_copyAll_75 : decode cX1_copyAll 75 = .ok (.aload_n 1, 1) := by decide +kernel
theorem dX1_copyAll_76 : decode cX1_copyAll 76 = .ok (.getfield 17, 3) := by decide +kernel
theorem dX1_copyAll_79 : decode cX1_copyAll 79 = .ok (.iload_n 2, 1) := by decide +kernel
theorem dX1_copyAll_80 : decode cX1_copyAll 80 = .ok (.baload, 1) := by decide +kernel
theorem dX1_copyAll_81 : decode cX1_copyAll 81 = .ok (.bastore, 1) := by decide +kernel
theorem dX1_copyAll_82 : decode cX1_copyAll 82 = .ok (.iinc 2 1, 3) := by decide +kernel
theorem dX1_copyAll_85 : decode cX1_copyAll 85 = .ok (.goto (-22), 3) := by decide +kernel
theorem dX1_copyAll_88 : decode cX1_copyAll 88 = .ok (.iconst 0, 1) := by decide +kernel
theorem dX1_copyAll_89 : decode cX1_copyAll 89 = .ok (.istore_n 2, 1) := by decide +kernel
theorem dX1_copyAll_90 : decode cX1_copyAll 90 = .ok (.iload_n 2, 1) := by decide +kernel
theorem dX1_copyAll_91 : decode cX1_copyAll 91 = .ok (.bipush 20, 2) := by decide +kernel
theorem dX1_copyAll_93 : decode cX1_copyAll 93 = .ok (.if_icmp .ge 21, 3) := by decide +kernel
theorem dX1_copyAll_96 : decode cX1_copyAll 96 = .ok (.aload_n 0, 1) := by decide +kernel
theorem dX1_copyAll_97 : decode cX1_copyAll 97 = .ok (.getfield 21, 3) := by decide +kernel
theorem dX1_copyAll_100 : decode cX1_copyAll 100 = .ok (.iload_n 2, 1) := by decide +kernel
theorem dX1_copyAll_101 : decode cX1_copyAll 101 = .ok (.aload_n 1, 1) := by decide +kernel
theorem dX1_copyAll_102 : decode cX1_copyAll 102 = .ok (.getfield 21, 3) := by decide +kernel
theorem dX1_copyAll_105 : decode cX1_copyAll 105 = .ok (.iload_n 2, 1) := by decide +kernel
theorem dX1_copyAll_106 : decode cX1_copyAll 106 = .ok (.iaload, 1) := by decide +kernel
theorem dX1_copyAll_107 : decode cX1_copyAll 107 = .ok (.iastore, 1) := by decide +kernel
theorem dX1_copyAll_108 : decode cX1_copyAll 108 = .ok (.iinc 2 1, 3) := by decide +kernel
theorem dX1_copyAll_111 : decode cX1_copyAll 111 = .ok (.goto (-21), 3) := by decide +kernel
theorem dX1_copyAll_114 : decode cX1_copyAll 114 = .ok (.iconst 0, 1) := by decide +kernel
theorem dX1_copyAll_115 : decode cX1_copyAll 115 = .ok (.istore_n 2, 1) := by decide +kernel
theorem dX1_copyAll_116 : decode cX1_copyAll 116 = .ok (.iload_n 2, 1) := by decide +kernel
theorem dX1_copyAll_117 : decode cX1_copyAll 117 = .ok (.iconst 2, 1) := by decide +kernel
theorem dX1_copyAll_118 : decode cX1_copyAll 118 = .ok (.if_icmp .ge 21, 3) := by decide +kernel
theorem dX1_copyAll_121 : decode cX1_copyAll 121 = .ok (.aload_n 0, 1) := by decide +kernel
theorem dX1_copyAll_122 : decode cX1_copyAll 122 = .ok (.getfield 25, 3) := by decide +kernel
theorem dX1_copyAll_125 : decode cX1_copyAll 125 = .ok (.iload_n 2, 1) := by decide +kernel
theorem dX1_copyAll_126 : decode cX1_copyAll 126 = .ok (.aload_n 1, 1) := by decide +kernel
theorem dX1_copyAll_127 : decode cX1_copyAll 127 = .ok (.getfield 25, 3) := by decide +kernel
theorem dX1_copyAll_130 : decode cX1_copyAll 130 = .ok (.iload_n 2, 1) := by decide +kernel
theorem dX1_copyAll_131 : decode cX1_copyAll 131 = .ok (.iaload, 1) := by decide +kernel
theorem dX1_copyAll_132 : decode cX1_copyAll 132 = .ok (.iastore, 1) := by decide +kernel
theorem dX1_copyAll_133 : decode cX1_copyAll 133 = .ok (.iinc 2 1, 3) := by decide +kernel
theorem dX1_copyAll_136 : decode cX1_copyAll 136 = .ok (.goto (-20), 3) := by decide +kernel
theorem dX1_copyAll_139 : decode cX1_copyAll 139 = .ok (.return_, 1) := by decide +kernel
theorem dX1_beginSession_0 : decode cX1_beginSession 0 = .ok (.iload_n 1, 1) := by decide +kernel
theorem dX1_beginSession_1 : decode cX1_beginSession 1 = .ok (.ifCond .eq 11, 3) := by decide +kernel
theorem dX1_beginSession_4 : decode cX1_beginSession 4 = .ok (.iload_n 1, 1) := by decide +kernel
theorem dX1_beginSession_5 : decode cX1_beginSession 5 = .ok (.iconst 1, 1) := by decide +kernel
theorem dX1_beginSession_6 : decode cX1_beginSession 6 = .ok (.if_icmp .eq 6, 3) := by decide +kernel
theorem dX1_beginSession_9 : decode cX1_beginSession 9 = .ok (.bipush (-2), 2) := by decide +kernel
theorem dX1_beginSession_11 : decode cX1_beginSession 11 = .ok (.ireturn, 1) := by decide +kernel
theorem dX1_beginSession_12 : decode cX1_beginSession 12 = .ok (.aload_n 0, 1) := by decide +kernel
theorem dX1_beginSession_13 : decode cX1_beginSession 13 = .ok (.invokevirtual 43, 3) := by decide +kernel
theorem dX1_beginSession_16 : decode cX1_beginSession 16 = .ok (.ifnull 6, 3) := by decide +kernel
theorem dX1_beginSession_19 : decode cX1_beginSession 19 = .ok (.bipush (-5), 2) := by decide +kernel
theorem dX1_beginSession_21 : decode cX1_beginSession 21 = .ok (.ireturn, 1) := by decide +kernel
theorem dX1_beginSession_22 : decode cX1_beginSession 22 = .ok (.aload_n 0, 1) := by decide +kernel
theorem dX1_beginSession_23 : decode cX1_beginSession 23 = .ok (.getfield 25, 3) := by decide +kernel
theorem dX1_beginSession_26 : decode cX1_beginSession 26 = .ok (.iconst 0, 1) := by decide +kernel
theorem dX1_beginSession_27 : decode cX1_beginSession 27 = .ok (.iaload, 1) := by decide +kernel
theorem dX1_beginSession_28 : decode cX1_beginSession 28 = .ok (.aload_n 0, 1) := by decide +kernel
theorem dX1_beginSession_29 : decode cX1_beginSession 29 = .ok (.getfield 25, 3) := by decide +kernel
theorem dX1_beginSession_32 : decode cX1_beginSession 32 = .ok (.iconst 1, 1) := by decide +kernel
theorem dX1_beginSession_33 : decode cX1_beginSession 33 = .ok (.iaload, 1) := by decide +kernel
theorem dX1_beginSession_34 : decode cX1_beginSession 34 = .ok (.iadd, 1) := by decide +kernel
theorem dX1_beginSession_35 : decode cX1_beginSession 35 = .ok (.istore_n 2, 1) := by decide +kernel
theorem dX1_beginSession_36 : decode cX1_beginSession 36 = .ok (.aload_n 0, 1) := by decide +kernel
theorem dX1_beginSession_37 : decode cX1_beginSession 37 = .ok (.getfield 29, 3) := by decide +kernel
theorem dX1_beginSession_40 : decode cX1_beginSession 40 = .ok (.bipush 12, 2) := by decide +kernel
theorem dX1_beginSession_42 : decode cX1_beginSession 42 = .ok (.if_icmp .ge 15, 3) := by decide +kernel
theorem dX1_beginSession_45 : decode cX1_beginSession 45 = .ok (.aload_n 0, 1) := by decide +kernel
theorem dX1_beginSession_46 : decode cX1_beginSession 46 = .ok (.getfield 33, 3) := by decide +kernel
theorem dX1_beginSession_49 : decode cX1_beginSession 49 = .ok (.iload_n 2, 1) := by decide +kernel
theorem dX1_beginSession_50 : decode cX1_beginSession 50 = .ok (.iadd, 1) := by decide +kernel
theorem dX1_beginSession_51 : decode cX1_beginSession 51 = .ok (.sipush 240, 3) := by decide +kernel
theorem dX1_beginSession_54 : decode cX1_beginSession 54 = .ok (.if_icmp .le 6, 3) := by decide +kernel
theorem dX1_beginSession_57 : decode cX1_beginSession 57 = .ok (.bipush (-4), 2) := by decide +kernel
theorem dX1_beginSession_59 : decode cX1_beginSession 59 = .ok (.ireturn, 1) := by decide +kernel
theorem dX1_beginSession_60 : decode cX1_beginSession 60 = .ok (.aload_n 0, 1) := by decide +kernel
theorem dX1_beginSession_61 : decode cX1_beginSession 61 = .ok (.aload_n 0, 1) := by decide +kernel
theorem dX1_beginSession_62 : decode cX1_beginSession 62 = .ok (.iconst (-1), 1) := by decide +kernel
theorem dX1_beginSession_63 : decode cX1_beginSession 63 = .ok (.invokevirtual 47, 3) := by decide +kernel
theorem dX1_beginSession_66 : decode cX1_beginSession 66 = .ok (.invokevirtual 51, 3) := by decide +kernel
theorem dX1_beginSession_69 : decode cX1_beginSession 69 = .ok (.astore_n 3, 1) := by decide +kernel
theorem dX1_beginSession_70 : decode cX1_beginSession 70 = .ok (.aload_n 0, 1) := by decide +kernel
theorem dX1_beginSession_71 : decode cX1_beginSession 71 = .ok (.getfield 11, 3) := by decide +kernel
theorem dX1_beginSession_74 : decode cX1_beginSession 74 = .ok (.aload_n 0, 1) := by decide +kernel
theorem dX1_beginSession_75 : decode cX1_beginSession 75 = .ok (.getfield 29, 3) := by decide +kernel
theorem dX1_beginSession_78 : decode cX1_beginSession 78 = .ok (.aaload, 1) := by decide +kernel
theorem dX1_beginSession_79 : decode cX1_beginSession 79 = .ok (.astore 4, 2) := by decide +kernel
theorem dX1_beginSession_81 : decode cX1_beginSession 81 = .ok (.aload 4, 2) := by decide +kernel
theorem dX1_beginSession_83 : decode cX1_beginSession 83 = .ok (.aload_n 0, 1) := by decide +kernel
theorem dX1_beginSession_84 : decode cX1_beginSession 84 = .ok (.getfield 33, 3) := by decide +kernel
theorem dX1_beginSession_87 : decode cX1_beginSession 87 = .ok (.aload_n 0, 1) := by decide +kernel
theorem dX1_beginSession_88 : decode cX1_beginSession 88 = .ok (.getfield 25, 3) := by decide +kernel
theorem dX1_beginSession_91 : decode cX1_beginSession 91 = .ok (.iconst 0, 1) := by decide +kernel
theorem dX1_beginSession_92 : decode cX1_beginSession 92 = .ok (.iaload, 1) := by decide +kernel
theorem dX1_beginSession_93 : decode cX1_beginSession 93 = .ok (.aload_n 0, 1) := by decide +kernel
theorem dX1_beginSession_94 : decode cX1_beginSession 94 = .ok (.getfield 25, 3) := by decide +kernel
theorem dX1_beginSession_97 : decode cX1_beginSession 97 = .ok (.iconst 1, 1) := by decide +kernel
theorem dX1_beginSession_98 : decode cX1_beginSession 98 = .ok (.iaload, 1) := by decide +kernel
theorem dX1_beginSession_99 : decode cX1_beginSession 99 = .ok (.invokevirtual 55, 3) := by decide +kernel
theorem dX1_beginSession_102 : decode cX1_beginSession 102 = .ok (.iload_n 1, 1) := by decide +kernel
theorem dX1_beginSession_103 : decode cX1_beginSession 103 = .ok (.iconst 1, 1) := by decide +kernel
theorem dX1_beginSession_104 : decode cX1_beginSession 104 = .ok (.if_icmp .ne 13, 3) := by decide +kernel
theorem dX1_beginSession_107 : decode cX1_beginSession 107 = .ok (.aload_n 3, 1) := by decide +kernel
theorem dX1_beginSession_108 : decode cX1_beginSession 108 = .ok (.ifnull 9, 3) := by decide +kernel
theorem dX1_beginSession_111 : decode cX1_beginSession 111 = .ok (.aload 4, 2) := by decide +kernel
theorem dX1_beginSession_113 : decode cX1_beginSession 113 = .ok (.aload_n 3, 1) := by decide +kernel
theorem dX1_beginSession_114 : decode cX1_beginSession 114 = .ok (.invokevirtual 59, 3) := by decide +kernel
theorem dX1_beginSession_117 : decode cX1_beginSession 117 = .ok (.aload_n 0, 1) := by decide +kernel
theorem dX1_beginSession_118 : decode cX1_beginSession 118 = .ok (.aload 4, 2) := by decide +kernel
theorem dX1_beginSession_120 : decode cX1_beginSession 120 = .ok (.getfield 62, 3) := by decide +kernel
theorem dX1_beginSession_123 : decode cX1_beginSession 123 = .ok (.putfield 33, 3) := by decide +kernel
theorem dX1_beginSession_126 : decode cX1_beginSession 126 = .ok (.aload_n 0, 1) := by decide +kernel
theorem dX1_beginSession_127 : decode cX1_beginSession 127 = .ok (.dup, 1) := by decide +kernel
theorem dX1_beginSession_128 : decode cX1_beginSession 128 = .ok (.getfield 29, 3) := by decide +kernel
theorem dX1_beginSession_131 : decode cX1_beginSession 131 = .ok (.iconst 1, 1) := by decide +kernel
theorem dX1_beginSession_132 : decode cX1_beginSession 132 = .ok (.iadd, 1) := by decide +kernel
theorem dX1_beginSession_133 : decode cX1_beginSession 133 = .ok (.putfield 29, 3) := by decide +kernel
theorem dX1_beginSession_136 : decode cX1_beginSession 136 = .ok (.aload_n 0, 1) := by decide +kernel
theorem dX1_beginSession_137 : decode cX1_beginSession 137 = .ok (.getfield 29, 3) := by decide +kernel
theorem dX1_beginSession_140 : decode cX1_beginSession 140 = .ok (.iconst 1, 1) := by decide +kernel
theorem dX1_beginSession_141 : decode cX1_beginSession 141 = .ok (.isub, 1) := by decide +kernel
theorem dX1_beginSession_142 : decode cX1_beginSession 142 = .ok (.ireturn, 1) := by decide +kernel
theorem dX1_writeFile_0 : decode cX1_writeFile 0 = .ok (.iload_n 1, 1) := by decide +kernel
theorem dX1_writeFile_1 : decode cX1_writeFile 1 = .ok (.invokestatic 65, 3) := by decide +kernel
theorem dX1_writeFile_4 : decode cX1_writeFile 4 = .ok (.ifCond .ne 5, 3) := by decide +kernel
theorem dX1_writeFile_7 : decode cX1_writeFile 7 = .ok (.iconst (-1), 1) := by decide +kernel
theorem dX1_writeFile_8 : decode cX1_writeFile 8 = .ok (.ireturn, 1) := by decide +kernel
theorem dX1_writeFile_9 : decode cX1_writeFile 9 = .ok (.iload_n 2, 1) := by decide +kernel
theorem dX1_writeFile_10 : decode cX1_writeFile 10 = .ok (.invokestatic 69, 3) := by decide +kernel
theorem dX1_writeFile_13 : decode cX1_writeFile 13 = .ok (.ifCond .ne 6, 3) := by decide +kernel
theorem dX1_writeFile_16 : decode cX1_writeFile 16 = .ok (.bipush (-2), 2) := by decide +kernel
theorem dX1_writeFile_18 : decode cX1_writeFile 18 = .ok (.ireturn, 1) := by decide +kernel
theorem dX1_writeFile_19 : decode cX1_writeFile 19 = .ok (.aload_n 0, 1) := by decide +kernel
theorem dX1_writeFile_20 : decode cX1_writeFile 20 = .ok (.invokevirtual 43, 3) := by decide +kernel
theorem dX1_writeFile_23 : decode cX1_writeFile 23 = .ok (.astore_n 3, 1) := by decide +kernel
theorem dX1_writeFile_24 : decode cX1_writeFile 24 = .ok (.aload_n 3, 1) := by decide +kernel
theorem dX1_writeFile_25 : decode cX1_writeFile 25 = .ok (.ifnonnull 6, 3) := by decide +kernel
theorem dX1_writeFile_28 : decode cX1_writeFile 28 = .ok (.bipush (-5), 2) := by decide +kernel
theorem dX1_writeFile_30 : decode cX1_writeFile 30 = .ok (.ireturn, 1) := by decide +kernel
theorem dX1_writeFile_31 : decode cX1_writeFile 31 = .ok (.iload_n 2, 1) := by decide +kernel
theorem dX1_writeFile_32 : decode cX1_writeFile 32 = .ok (.aload_n 0, 1) := by decide +kernel
theorem dX1_writeFile_33 : decode cX1_writeFile 33 = .ok (.invokevirtual 72, 3) := by decide +kernel
theorem dX1_writeFile_36 : decode cX1_writeFile 36 = .ok (.if_icmp .le 6, 3) := by decide +kernel
theorem dX1_writeFile_39 : decode cX1_writeFile 39 = .ok (.bipush (-4), 2) := by decide +kernel
theorem dX1_writeFile_41 : decode cX1_writeFile 41 = .ok (.ireturn, 1) := by decide +kernel
theorem dX1_writeFile_42 : decode cX1_writeFile 42 = .ok (.new 76, 3) := by decide +kernel
theorem dX1_writeFile_45 : decode cX1_writeFile 45 = .ok (.dup, 1) := by decide +kernel
theorem dX1_writeFile_46 : decode cX1_writeFile 46 = .ok (.aload_n 0, 1) := by decide +kernel
theorem dX1_writeFile_47 : decode cX1_writeFile 47 = .ok (.getfield 33, 3) := by decide +kernel
theorem dX1_writeFile_50 : decode cX1_writeFile 50 = .ok (.iload_n 2, 1) := by decide +kernel
theorem dX1_writeFile_51 : decode cX1_writeFile 51 = .ok (.aload_n 0, 1) := by decide +kernel
theorem dX1_writeFile_52 : decode cX1_writeFile 52 = .ok (.getfield 29, 3) := by decide +kernel
theorem dX1_writeFile_55 : decode cX1_writeFile 55 = .ok (.iconst 1, 1) := by decide +kernel
theorem dX1_writeFile_56 : decode cX1_writeFile 56 = .ok (.isub, 1) := by decide +kernel
theorem dX1_writeFile_57 : decode cX1_writeFile 57 = .ok (.invokespecial 78, 3) := by decide +kernel
theorem dX1_writeFile_60 : decode cX1_writeFile 60 = .ok (.astore 4, 2) := by decide +kernel
theorem dX1_writeFile_62 : decode cX1_writeFile 62 = .ok (.aload_n 3, 1) := by decide +kernel
theorem dX1_writeFile_63 : decode cX1_writeFile 63 = .ok (.iload_n 1, 1) := by decide +kernel
theorem dX1_writeFile_64 : decode cX1_writeFile 64 = .ok (.aload 4, 2) := by decide +kernel
theorem dX1_writeFile_66 : decode cX1_writeFile 66 = .ok (.invokevirtual 80, 3) := by decide +kernel
theorem dX1_writeFile_69 : decode cX1_writeFile 69 = .ok (.aload_n 3, 1) := by decide +kernel
theorem dX1_writeFile_70 : decode cX1_writeFile 70 = .ok (.dup, 1) := by decide +kernel
theorem dX1_writeFile_71 : decode cX1_writeFile 71 = .ok (.getfield 84, 3) := by decide +kernel
theorem dX1_writeFile_74 : decode cX1_writeFile 74 = .ok (.iconst 1, 1) := by decide +kernel
theorem dX1_writeFile_75 : decode cX1_writeFile 75 = .ok (.iadd, 1) := by decide +kernel
theorem dX1_writeFile_76 : decode cX1_writeFile 76 = .ok (.putfield 84, 3) := by decide +kernel
theorem dX1_writeFile_79 : decode cX1_writeFile 79 = .ok (.aload_n 0, 1) := by decide +kernel
theorem dX1_writeFile_80 : decode cX1_writeFile 80 = .ok (.getfield 21, 3) := by decide +kernel
theorem dX1_writeFile_83 : decode cX1_writeFile 83 = .ok (.iload_n 1, 1) := by decide +kernel
theorem dX1_writeFile_84 : decode cX1_writeFile 84 = .ok (.dup2, 1) := by decide +kernel
theorem dX1_writeFile_85 : decode cX1_writeFile 85 = .ok (.iaload, 1) := by decide +kernel
theorem dX1_writeFile_86 : decode cX1_writeFile 86 = .ok (.iconst 1, 1) := by decide +kernel
theorem dX1_writeFile_87 : decode cX1_writeFile 87 = .ok (.iadd, 1) := by decide +kernel
theorem dX1_writeFile_88 : decode cX1_writeFile 88 = .ok (.iastore, 1) := by decide +kernel
theorem dX1_writeFile_89 : decode cX1_writeFile 89 = .ok (.aload_n 0, 1) := by decide +kernel
theorem dX1_writeFile_90 : decode cX1_writeFile 90 = .ok (.dup, 1) := by decide +kernel
theorem dX1_writeFile_91 : decode cX1_writeFile 91 = .ok (.getfield 33, 3) := by decide +kernel
theorem dX1_writeFile_94 : decode cX1_writeFile 94 = .ok (.iload_n 2, 1) := by decide +kernel
theorem dX1_writeFile_95 : decode cX1_writeFile 95 = .ok (.iadd, 1) := by decide +kernel
theorem dX1_writeFile_96 : decode cX1_writeFile 96 = .ok (.putfield 33, 3) := by decide +kernel
theorem dX1_writeFile_99 : decode cX1_writeFile 99 = .ok (.aload_n 3, 1) := by decide +kernel
theorem dX1_writeFile_100 : decode cX1_writeFile 100 = .ok (.aload_n 0, 1) := by decide +kernel
theorem dX1_writeFile_101 : decode cX1_writeFile 101 = .ok (.getfield 33, 3) := by decide +kernel
theorem dX1_writeFile_104 : decode cX1_writeFile 104 = .ok (.putfield 62, 3) := by decide +kernel
theorem dX1_writeFile_107 : decode cX1_writeFile 107 = .ok (.aload 4, 2) := by decide +kernel
theorem dX1_writeFile_109 : decode cX1_writeFile 109 = .ok (.getfield 87, 3) := by decide +kernel
theorem dX1_writeFile_112 : decode cX1_writeFile 112 = .ok (.ireturn, 1) := by decide +kernel
theorem dX1_removeEntry_0 : decode cX1_removeEntry 0 = .ok (.iload_n 1, 1) := by decide +kernel
theorem dX1_removeEntry_1 : decode cX1_removeEntry 1 = .ok (.invokestatic 65, 3) := by decide +kernel
theorem dX1_removeEntry_4 : decode cX1_removeEntry 4 = .ok (.ifCond .ne 5, 3) := by decide +kernel
theorem dX1_removeEntry_7 : decode cX1_removeEntry 7 = .ok (.iconst (-1), 1) := by decide +kernel
theorem dX1_removeEntry_8 : decode cX1_removeEntry 8 = .ok (.ireturn, 1) := by decide +kernel
theorem dX1_removeEntry_9 : decode cX1_removeEntry 9 = .ok (.aload_n 0, 1) := by decide +kernel
theorem dX1_removeEntry_10 : decode cX1_removeEntry 10 = .ok (.invokevirtual 43, 3) := by decide +kernel
theorem dX1_removeEntry_13 : decode cX1_removeEntry 13 = .ok (.astore_n 2, 1) := by decide +kernel
theorem dX1_removeEntry_14 : decode cX1_removeEntry 14 = .ok (.aload_n 2, 1) := by decide +kernel
theorem dX1_removeEntry_15 : decode cX1_removeEntry 15 = .ok (.ifnull 11, 3) := by decide +kernel
theorem dX1_removeEntry_18 : decode cX1_removeEntry 18 = .ok (.aload_n 2, 1) := by decide +kernel
theorem dX1_removeEntry_19 : decode cX1_removeEntry 19 = .ok (.iload_n 1, 1) := by decide +kernel
theorem dX1_removeEntry_20 : decode cX1_removeEntry 20 = .ok (.invokevirtual 90, 3) := by decide +kernel
theorem dX1_removeEntry_23 : decode cX1_removeEntry 23 = .ok (.ifnonnull 6, 3) := by decide +kernel
theorem dX1_removeEntry_26 : decode cX1_removeEntry 26 = .ok (.bipush (-5), 2) := by decide +kernel
theorem dX1_removeEntry_28 : decode cX1_removeEntry 28 = .ok (.ireturn, 1) := by decide +kernel
theorem dX1_removeEntry_29 : decode cX1_removeEntry 29 = .ok (.aload_n 2, 1) := by decide +kernel
theorem dX1_removeEntry_30 : decode cX1_removeEntry 30 = .ok (.iload_n 1, 1) := by decide +kernel
theorem dX1_removeEntry_31 : decode cX1_removeEntry 31 = .ok (.aconst_null, 1) := by decide +kernel
theorem dX1_removeEntry_32 : decode cX1_removeEntry 32 = .ok (.invokevirtual 80, 3) := by decide +kernel
theorem dX1_removeEntry_35 : decode cX1_removeEntry 35 = .ok (.aload_n 2, 1) := by decide +kernel
theorem dX1_removeEntry_36 : decode cX1_removeEntry 36 = .ok (.invokevirtual 94, 3) := by decide +kernel
theorem dX1_removeEntry_39 : decode cX1_removeEntry 39 = .ok (.ireturn, 1) := by decide +kernel
theorem dX1_keepEntry_0 : decode cX1_keepEntry 0 = .ok (.aload_n 0, 1) := by decide +kernel
theorem dX1_keepEntry_1 : decode cX1_keepEntry 1 = .ok (.iload_n 2, 1) := by decide +kernel
theorem dX1_keepEntry_2 : decode cX1_keepEntry 2 = .ok (.invokevirtual 51, 3) := by decide +kernel
theorem dX1_keepEntry_5 : decode cX1_keepEntry 5 = .ok (.astore_n 3, 1) := by decide +kernel
theorem dX1_keepEntry_6 : decode cX1_keepEntry 6 = .ok (.iload_n 1, 1) := by decide +kernel
theorem dX1_keepEntry_7 : decode cX1_keepEntry 7 = .ok (.invokestatic 65, 3) := by decide +kernel
theorem dX1_keepEntry_10 : decode cX1_keepEntry 10 = .ok (.ifCond .eq 7, 3) := by decide +kernel
theorem dX1_keepEntry_13 : decode cX1_keepEntry 13 = .ok (.aload_n 3, 1) := by decide +kernel
theorem dX1_keepEntry_14 : decode cX1_keepEntry 14 = .ok (.ifnonnull 5, 3) := by decide +kernel
theorem dX1_keepEntry_17 : decode cX1_keepEntry 17 = .ok (.iconst (-1), 1) := by decide +kernel
theorem dX1_keepEntry_18 : decode cX1_keepEntry 18 = .ok (.ireturn, 1) := by decide +kernel
theorem dX1_keepEntry_19 : decode cX1_keepEntry 19 = .ok (.aload_n 0, 1) := by decide +kernel
theorem dX1_keepEntry_20 : decode cX1_keepEntry 20 = .ok (.invokevirtual 43, 3) := by decide +kernel
theorem dX1_keepEntry_23 : decode cX1_keepEntry 23 = .ok (.astore 4, 2) := by decide +kernel
theorem dX1_keepEntry_25 : decode cX1_keepEntry 25 = .ok (.aload 4, 2) := by decide +kernel
theorem dX1_keepEntry_27 : decode cX1_keepEntry 27 = .ok (.ifnull 12, 3) := by decide +kernel
theorem dX1_keepEntry_30 : decode cX1_keepEntry 30 = .ok (.aload_n 0, 1) := by decide +kernel
theorem dX1_keepEntry_31 : decode cX1_keepEntry 31 = .ok (.aload_n 3, 1) := by decide +kernel
theorem dX1_keepEntry_32 : decode cX1_keepEntry 32 = .ok (.iconst (-1), 1) := by decide +kernel
theorem dX1_keepEntry_33 : decode cX1_keepEntry 33 = .ok (.invokevirtual 97, 3) := by decide +kernel
theorem dX1_keepEntry_36 : decode cX1_keepEntry 36 = .ok (.ifCond .ne 6, 3) := by decide +kernel
theorem dX1_keepEntry_39 : decode cX1_keepEntry 39 = .ok (.bipush (-5), 2) := by decide +kernel
theorem dX1_keepEntry_41 : decode cX1_keepEntry 41 = .ok (.ireturn, 1) := by decide +kernel
theorem dX1_keepEntry_42 : decode cX1_keepEntry 42 = .ok (.aload_n 3, 1) := by decide +kernel
theorem dX1_keepEntry_43 : decode cX1_keepEntry 43 = .ok (.iload_n 1, 1) := by decide +kernel
theorem dX1_keepEntry_44 : decode cX1_keepEntry 44 = .ok (.invokevirtual 90, 3) := by decide +kernel
theorem dX1_keepEntry_47 : decode cX1_keepEntry 47 = .ok (.astore 5, 2) := by decide +kernel
theorem dX1_keepEntry_49 : decode cX1_keepEntry 49 = .ok (.aload 5, 2) := by decide +kernel
theorem dX1_keepEntry_51 : decode cX1_keepEntry 51 = .ok (.ifnonnull 6, 3) := by decide +kernel
theorem dX1_keepEntry_54 : decode cX1_keepEntry 54 = .ok (.bipush (-5), 2) := by decide +kernel
theorem dX1_keepEntry_56 : decode cX1_keepEntry 56 = .ok (.ireturn, 1) := by decide +kernel
theorem dX1_keepEntry_57 : decode cX1_keepEntry 57 = .ok (.aload 4, 2) := by decide +kernel
theorem dX1_keepEntry_59 : decode cX1_keepEntry 59 = .ok (.iload_n 1, 1) := by decide +kernel
theorem dX1_keepEntry_60 : decode cX1_keepEntry 60 = .ok (.aload 5, 2) := by decide +kernel
theorem dX1_keepEntry_62 : decode cX1_keepEntry 62 = .ok (.invokevirtual 80, 3) := by decide +kernel
theorem dX1_keepEntry_65 : decode cX1_keepEntry 65 = .ok (.aload 5, 2) := by decide +kernel
theorem dX1_keepEntry_67 : decode cX1_keepEntry 67 = .ok (.getfield 87, 3) := by decide +kernel
theorem dX1_keepEntry_70 : decode cX1_keepEntry 70 = .ok (.ireturn, 1) := by decide +kernel
theorem dX1_closeSession_0 : decode cX1_closeSession 0 = .ok (.aload_n 0, 1) := by decide +kernel
theorem dX1_closeSession_1 : decode cX1_closeSession 1 = .ok (.invokevirtual 43, 3) := by decide +kernel
theorem dX1_closeSession_4 : decode cX1_closeSession 4 = .ok (.astore_n 1, 1) := by decide +kernel
theorem dX1_closeSession_5 : decode cX1_closeSession 5 = .ok (.aload_n 1, 1) := by decide +kernel
theorem dX1_closeSession_6 : decode cX1_closeSession 6 = .ok (.ifnonnull 8, 3) := by decide +kernel
theorem dX1_closeSession_9 : decode cX1_closeSession 9 = .ok (.bipush (-5), 2) := by decide +kernel
theorem dX1_closeSession_11 : decode cX1_closeSession 11 = .ok (.goto 8, 3) := by decide +kernel
theorem dX1_closeSession_14 : decode cX1_closeSession 14 = .ok (.aload_n 0, 1) := by decide +kernel
theorem dX1_closeSession_15 : decode cX1_closeSession 15 = .ok (.aload_n 1, 1) := by decide +kernel
theorem dX1_closeSession_16 : decode cX1_closeSession 16 = .ok (.invokevirtual 101, 3) := by decide +kernel
theorem dX1_closeSession_19 : decode cX1_closeSession 19 = .ok (.ireturn, 1) := by decide +kernel
theorem dX1_breakSession_0 : decode cX1_breakSession 0 = .ok (.aload_n 0, 1) := by decide +kernel
theorem dX1_breakSession_1 : decode cX1_breakSession 1 = .ok (.invokevirtual 43, 3) := by decide +kernel
theorem dX1_breakSession_4 : decode cX1_breakSession 4 = .ok (.astore_n 1, 1) := by decide +kernel
theorem dX1_breakSession_5 : decode cX1_breakSession 5 = .ok (.aload_n 1, 1) := by decide +kernel
theorem dX1_breakSession_6 : decode cX1_breakSession 6 = .ok (.ifnonnull 5, 3) := by decide +kernel
theorem dX1_breakSession_9 : decode cX1_breakSession 9 = .ok (.iconst 0, 1) := by decide +kernel
theorem dX1_breakSession_10 : decode cX1_breakSession 10 = .ok (.ireturn, 1) := by decide +kernel
theorem dX1_breakSession_11 : decode cX1_breakSession 11 = .ok (.aload_n 1, 1) := by decide +kernel
theorem dX1_breakSession_12 : decode cX1_breakSession 12 = .ok (.iconst 2, 1) := by decide +kernel
theorem dX1_breakSession_13 : decode cX1_breakSession 13 = .ok (.putfield 105, 3) := by decide +kernel
theorem dX1_breakSession_16 : decode cX1_breakSession 16 = .ok (.iconst 1, 1) := by decide +kernel
theorem dX1_breakSession_17 : decode cX1_breakSession 17 = .ok (.ireturn, 1) := by decide +kernel
theorem dX1_repairSession_0 : decode cX1_repairSession 0 = .ok (.aload_n 0, 1) := by decide +kernel
theorem dX1_repairSession_1 : decode cX1_repairSession 1 = .ok (.iload_n 1, 1) := by decide +kernel
theorem dX1_repairSession_2 : decode cX1_repairSession 2 = .ok (.invokevirtual 51, 3) := by decide +kernel
theorem dX1_repairSession_5 : decode cX1_repairSession 5 = .ok (.astore_n 2, 1) := by decide +kernel
theorem dX1_repairSession_6 : decode cX1_repairSession 6 = .ok (.aload_n 2, 1) := by decide +kernel
theorem dX1_repairSession_7 : decode cX1_repairSession 7 = .ok (.ifnonnull 5, 3) := by decide +kernel
theorem dX1_repairSession_10 : decode cX1_repairSession 10 = .ok (.iconst (-1), 1) := by decide +kernel
theorem dX1_repairSession_11 : decode cX1_repairSession 11 = .ok (.ireturn, 1) := by decide +kernel
theorem dX1_repairSession_12 : decode cX1_repairSession 12 = .ok (.iload_n 1, 1) := by decide +kernel
theorem dX1_repairSession_13 : decode cX1_repairSession 13 = .ok (.aload_n 0, 1) := by decide +kernel
theorem dX1_repairSession_14 : decode cX1_repairSession 14 = .ok (.getfield 29, 3) := by decide +kernel
theorem dX1_repairSession_17 : decode cX1_repairSession 17 = .ok (.iconst 1, 1) := by decide +kernel
theorem dX1_repairSession_18 : decode cX1_repairSession 18 = .ok (.isub, 1) := by decide +kernel
theorem dX1_repairSession_19 : decode cX1_repairSession 19 = .ok (.if_icmp .ne 7, 3) := by decide +kernel
theorem dX1_repairSession_22 : decode cX1_repairSession 22 = .ok (.iconst 1, 1) := by decide +kernel
theorem dX1_repairSession_23 : decode cX1_repairSession 23 = .ok (.goto 4, 3) := by decide +kernel
theorem dX1_repairSession_26 : decode cX1_repairSession 26 = .ok (.iconst 0, 1) := by decide +kernel
theorem dX1_repairSession_27 : decode cX1_repairSession 27 = .ok (.istore_n 3, 1) := by decide +kernel
theorem dX1_repairSession_28 : decode cX1_repairSession 28 = .ok (.aload_n 2, 1) := by decide +kernel
theorem dX1_repairSession_29 : decode cX1_repairSession 29 = .ok (.getfield 105, 3) := by decide +kernel
theorem dX1_repairSession_32 : decode cX1_repairSession 32 = .ok (.iconst 2, 1) := by decide +kernel
theorem dX1_repairSession_33 : decode cX1_repairSession 33 = .ok (.if_icmp .ne 23, 3) := by decide +kernel
theorem dX1_repairSession_36 : decode cX1_repairSession 36 = .ok (.iload_n 3, 1) := by decide +kernel
theorem dX1_repairSession_37 : decode cX1_repairSession 37 = .ok (.ifCond .eq 19, 3) := by decide +kernel
theorem dX1_repairSession_40 : decode cX1_repairSession 40 = .ok (.aload_n 0, 1) := by decide +kernel
theorem dX1_repairSession_41 : decode cX1_repairSession 41 = .ok (.aload_n 2, 1) := by decide +kernel
theorem dX1_repairSession_42 : decode cX1_repairSession 42 = .ok (.getfield 108, 3) := by decide +kernel
theorem dX1_repairSession_45 : decode cX1_repairSession 45 = .ok (.aload_n 2, 1) := by decide +kernel
theorem dX1_repairSession_46 : decode cX1_repairSession 46 = .ok (.getfield 109, 3) := by decide +kernel
theorem dX1_repairSession_49 : decode cX1_repairSession 49 = .ok (.iconst (-1), 1) := by decide +kernel
theorem dX1_repairSession_50 : decode cX1_repairSession 50 = .ok (.invokevirtual 112, 3) := by decide +kernel
theorem dX1_repairSession_53 : decode cX1_repairSession 53 = .ok (.ifCond .ne 6, 3) := by decide +kernel
theorem dX1_repairSession_56 : decode cX1_repairSession 56 = .ok (.bipush (-5), 2) := by decide +kernel
theorem dX1_repairSession_58 : decode cX1_repairSession 58 = .ok (.ireturn, 1) := by decide +kernel
theorem dX1_repairSession_59 : decode cX1_repairSession 59 = .ok (.aload_n 0, 1) := by decide +kernel
theorem dX1_repairSession_60 : decode cX1_repairSession 60 = .ok (.aload_n 2, 1) := by decide +kernel
theorem dX1_repairSession_61 : decode cX1_repairSession 61 = .ok (.invokevirtual 101, 3) := by decide +kernel
theorem dX1_repairSession_64 : decode cX1_repairSession 64 = .ok (.ireturn, 1) := by decide +kernel
theorem dX1_damageSector_0 : decode cX1_damageSector 0 = .ok (.iload_n 1, 1) := by decide +kernel
theorem dX1_damageSector_1 : decode cX1_damageSector 1 = .ok (.invokestatic 116, 3) := by decide +kernel
theorem dX1_damageSector_4 : decode cX1_damageSector 4 = .ok (.ifCond .ne 5, 3) := by decide +kernel
theorem dX1_damageSector_7 : decode cX1_damageSector 7 = .ok (.iconst (-1), 1) := by decide +kernel
theorem dX1_damageSector_8 : decode cX1_damageSector 8 = .ok (.ireturn, 1) := by decide +kernel
theorem dX1_damageSector_9 : decode cX1_damageSector 9 = .ok (.aload_n 0, 1) := by decide +kernel
theorem dX1_damageSector_10 : decode cX1_damageSector 10 = .ok (.getfield 17, 3) := by decide +kernel
theorem dX1_damageSector_13 : decode cX1_damageSector 13 = .ok (.iload_n 1, 1) := by decide +kernel
theorem dX1_damageSector_14 : decode cX1_damageSector 14 = .ok (.baload, 1) := by decide +kernel
theorem dX1_damageSector_15 : decode cX1_damageSector 15 = .ok (.ifCond .ne 20, 3) := by decide +kernel
theorem dX1_damageSector_18 : decode cX1_damageSector 18 = .ok (.aload_n 0, 1) := by decide +kernel
theorem dX1_damageSector_19 : decode cX1_damageSector 19 = .ok (.getfield 17, 3) := by decide +kernel
theorem dX1_damageSector_22 : decode cX1_damageSector 22 = .ok (.iload_n 1, 1) := by decide +kernel
theorem dX1_damageSector_23 : decode cX1_damageSector 23 = .ok (.iconst 1, 1) := by decide +kernel
theorem dX1_damageSector_24 : decode cX1_damageSector 24 = .ok (.bastore, 1) := by decide +kernel
theorem dX1_damageSector_25 : decode cX1_damageSector 25 = .ok (.aload_n 0, 1) := by decide +kernel
theorem dX1_damageSector_26 : decode cX1_damageSector 26 = .ok (.dup, 1) := by decide +kernel
theorem dX1_damageSector_27 : decode cX1_damageSector 27 = .ok (.getfield 36, 3) := by decide +kernel
theorem dX1_damageSector_30 : decode cX1_damageSector 30 = .ok (.iconst 1, 1) := by decide +kernel
theorem dX1_damageSector_31 : decode cX1_damageSector 31 = .ok (.iadd, 1) := by decide +kernel
theorem dX1_damageSector_32 : decode cX1_damageSector 32 = .ok (.putfield 36, 3) := by decide +kernel
theorem dX1_damageSector_35 : decode cX1_damageSector 35 = .ok (.aload_n 0, 1) := by decide +kernel
theorem dX1_damageSector_36 : decode cX1_damageSector 36 = .ok (.getfield 36, 3) := by decide +kernel
theorem dX1_damageSector_39 : decode cX1_damageSector 39 = .ok (.ireturn, 1) := by decide +kernel
theorem dX1_changeSetting_0 : decode cX1_changeSetting 0 = .ok (.iload_n 1, 1) := by decide +kernel
theorem dX1_changeSetting_1 : decode cX1_changeSetting 1 = .ok (.invokestatic 119, 3) := by decide +kernel
theorem dX1_changeSetting_4 : decode cX1_changeSetting 4 = .ok (.ifCond .ne 5, 3) := by decide +kernel
theorem dX1_changeSetting_7 : decode cX1_changeSetting 7 = .ok (.iconst (-1), 1) := by decide +kernel
theorem dX1_changeSetting_8 : decode cX1_changeSetting 8 = .ok (.ireturn, 1) := by decide +kernel
theorem dX1_changeSetting_9 : decode cX1_changeSetting 9 = .ok (.iload_n 1, 1) := by decide +kernel
theorem dX1_changeSetting_10 : decode cX1_changeSetting 10 = .ok (.ifCond .ne 7, 3) := by decide +kernel
theorem dX1_changeSetting_13 : decode cX1_changeSetting 13 = .ok (.iconst 2, 1) := by decide +kernel
theorem dX1_changeSetting_14 : decode cX1_changeSetting 14 = .ok (.goto 4, 3) := by decide +kernel
theorem dX1_changeSetting_17 : decode cX1_changeSetting 17 = .ok (.iconst 1, 1) := by decide +kernel
theorem dX1_changeSetting_18 : decode cX1_changeSetting 18 = .ok (.istore_n 3, 1) := by decide +kernel
theorem dX1_changeSetting_19 : decode cX1_changeSetting 19 = .ok (.iload_n 2, 1) := by decide +kernel
theorem dX1_changeSetting_20 : decode cX1_changeSetting 20 = .ok (.iload_n 3, 1) := by decide +kernel
theorem dX1_changeSetting_21 : decode cX1_changeSetting 21 = .ok (.if_icmp .lt 9, 3) := by decide +kernel
theorem dX1_changeSetting_24 : decode cX1_changeSetting 24 = .ok (.iload_n 2, 1) := by decide +kernel
theorem dX1_changeSetting_25 : decode cX1_changeSetting 25 = .ok (.bipush 9, 2) := by decide +kernel
theorem dX1_changeSetting_27 : decode cX1_changeSetting 27 = .ok (.if_icmp .le 6, 3) := by decide +kernel
theorem dX1_changeSetting_30 : decode cX1_changeSetting 30 = .ok (.bipush (-2), 2) := by decide +kernel
theorem dX1_changeSetting_32 : decode cX1_changeSetting 32 = .ok (.ireturn, 1) := by decide +kernel
theorem dX1_changeSetting_33 : decode cX1_changeSetting 33 = .ok (.aload_n 0, 1) := by decide +kernel
theorem dX1_changeSetting_34 : decode cX1_changeSetting 34 = .ok (.getfield 25, 3) := by decide +kernel
theorem dX1_changeSetting_37 : decode cX1_changeSetting 37 = .ok (.iload_n 1, 1) := by decide +kernel
theorem dX1_changeSetting_38 : decode cX1_changeSetting 38 = .ok (.iaload, 1) := by decide +kernel
theorem dX1_changeSetting_39 : decode cX1_changeSetting 39 = .ok (.istore 4, 2) := by decide +kernel
theorem dX1_changeSetting_41 : decode cX1_changeSetting 41 = .ok (.aload_n 0, 1) := by decide +kernel
theorem dX1_changeSetting_42 : decode cX1_changeSetting 42 = .ok (.getfield 25, 3) := by decide +kernel
theorem dX1_changeSetting_45 : decode cX1_changeSetting 45 = .ok (.iload_n 1, 1) := by decide +kernel
theorem dX1_changeSetting_46 : decode cX1_changeSetting 46 = .ok (.iload_n 2, 1) := by decide +kernel
theorem dX1_changeSetting_47 : decode cX1_changeSetting 47 = .ok (.iastore, 1) := by decide +kernel
theorem dX1_changeSetting_48 : decode cX1_changeSetting 48 = .ok (.iload 4, 2) := by decide +kernel
theorem dX1_changeSetting_50 : decode cX1_changeSetting 50 = .ok (.ireturn, 1) := by decide +kernel
theorem dX1_leadOutOf_0 : decode cX1_leadOutOf 0 = .ok (.aload_n 0, 1) := by decide +kernel
theorem dX1_leadOutOf_1 : decode cX1_leadOutOf 1 = .ok (.dup, 1) := by decide +kernel
theorem dX1_leadOutOf_2 : decode cX1_leadOutOf 2 = .ok (.getfield 33, 3) := by decide +kernel
theorem dX1_leadOutOf_5 : decode cX1_leadOutOf 5 = .ok (.aload_n 1, 1) := by decide +kernel
theorem dX1_leadOutOf_6 : decode cX1_leadOutOf 6 = .ok (.getfield 122, 3) := by decide +kernel
theorem dX1_leadOutOf_9 : decode cX1_leadOutOf 9 = .ok (.iadd, 1) := by decide +kernel
theorem dX1_leadOutOf_10 : decode cX1_leadOutOf 10 = .ok (.putfield 33, 3) := by decide +kernel
theorem dX1_leadOutOf_13 : decode cX1_leadOutOf 13 = .ok (.aload_n 1, 1) := by decide +kernel
theorem dX1_leadOutOf_14 : decode cX1_leadOutOf 14 = .ok (.aload_n 0, 1) := by decide +kernel
theorem dX1_leadOutOf_15 : decode cX1_leadOutOf 15 = .ok (.getfield 33, 3) := by decide +kernel
theorem dX1_leadOutOf_18 : decode cX1_leadOutOf 18 = .ok (.putfield 62, 3) := by decide +kernel
theorem dX1_leadOutOf_21 : decode cX1_leadOutOf 21 = .ok (.aload_n 1, 1) := by decide +kernel
theorem dX1_leadOutOf_22 : decode cX1_leadOutOf 22 = .ok (.iconst 1, 1) := by decide +kernel
theorem dX1_leadOutOf_23 : decode cX1_leadOutOf 23 = .ok (.putfield 105, 3) := by decide +kernel
theorem dX1_leadOutOf_26 : decode cX1_leadOutOf 26 = .ok (.aload_n 0, 1) := by decide +kernel
theorem dX1_leadOutOf_27 : decode cX1_leadOutOf 27 = .ok (.getfield 33, 3) := by decide +kernel
theorem dX1_leadOutOf_30 : decode cX1_leadOutOf 30 = .ok (.ireturn, 1) := by decide +kernel
theorem dX1_sessionAt_0 : decode cX1_sessionAt 0 = .ok (.iload_n 1, 1) := by decide +kernel
theorem dX1_sessionAt_1 : decode cX1_sessionAt 1 = .ok (.ifCond .lt 26, 3) := by decide +kernel
theorem dX1_sessionAt_4 : decode cX1_sessionAt 4 = .ok (.iload_n 1, 1) := by decide +kernel
theorem dX1_sessionAt_5 : decode cX1_sessionAt 5 = .ok (.aload_n 0, 1) := by decide +kernel
theorem dX1_sessionAt_6 : decode cX1_sessionAt 6 = .ok (.getfield 29, 3) := by decide +kernel
theorem dX1_sessionAt_9 : decode cX1_sessionAt 9 = .ok (.if_icmp .ge 18, 3) := by decide +kernel
theorem dX1_sessionAt_12 : decode cX1_sessionAt 12 = .ok (.iload_n 1, 1) := by decide +kernel
theorem dX1_sessionAt_13 : decode cX1_sessionAt 13 = .ok (.bipush 12, 2) := by decide +kernel
theorem dX1_sessionAt_15 : decode cX1_sessionAt 15 = .ok (.if_icmp .ge 12, 3) := by decide +kernel
theorem dX1_sessionAt_18 : decode cX1_sessionAt 18 = .ok (.aload_n 0, 1) := by decide +kernel
theorem dX1_sessionAt_19 : decode cX1_sessionAt 19 = .ok (.getfield 11, 3) := by decide +kernel
theorem dX1_sessionAt_22 : decode cX1_sessionAt 22 = .ok (.iload_n 1, 1) := by decide +kernel
theorem dX1_sessionAt_23 : decode cX1_sessionAt 23 = .ok (.aaload, 1) := by decide +kernel
theorem dX1_sessionAt_24 : decode cX1_sessionAt 24 = .ok (.goto 4, 3) := by decide +kernel
theorem dX1_sessionAt_27 : decode cX1_sessionAt 27 = .ok (.aconst_null, 1) := by decide +kernel
theorem dX1_sessionAt_28 : decode cX1_sessionAt 28 = .ok (.areturn, 1) := by decide +kernel
theorem dX1_openSession_0 : decode cX1_openSession 0 = .ok (.aload_n 0, 1) := by decide +kernel
theorem dX1_openSession_1 : decode cX1_openSession 1 = .ok (.aload_n 0, 1) := by decide +kernel
theorem dX1_openSession_2 : decode cX1_openSession 2 = .ok (.getfield 29, 3) := by decide +kernel
theorem dX1_openSession_5 : decode cX1_openSession 5 = .ok (.iconst 1, 1) := by decide +kernel
theorem dX1_openSession_6 : decode cX1_openSession 6 = .ok (.isub, 1) := by decide +kernel
theorem dX1_openSession_7 : decode cX1_openSession 7 = .ok (.invokevirtual 51, 3) := by decide +kernel
theorem dX1_openSession_10 : decode cX1_openSession 10 = .ok (.astore_n 1, 1) := by decide +kernel
theorem dX1_openSession_11 : decode cX1_openSession 11 = .ok (.aload_n 1, 1) := by decide +kernel
theorem dX1_openSession_12 : decode cX1_openSession 12 = .ok (.ifnull 14, 3) := by decide +kernel
theorem dX1_openSession_15 : decode cX1_openSession 15 = .ok (.aload_n 1, 1) := by decide +kernel
theorem dX1_openSession_16 : decode cX1_openSession 16 = .ok (.getfield 105, 3) := by decide +kernel
theorem dX1_openSession_19 : decode cX1_openSession 19 = .ok (.ifCond .ne 7, 3) := by decide +kernel
theorem dX1_openSession_22 : decode cX1_openSession 22 = .ok (.aload_n 1, 1) := by decide +kernel
theorem dX1_openSession_23 : decode cX1_openSession 23 = .ok (.goto 4, 3) := by decide +kernel
theorem dX1_openSession_26 : decode cX1_openSession 26 = .ok (.aconst_null, 1) := by decide +kernel
theorem dX1_openSession_27 : decode cX1_openSession 27 = .ok (.areturn, 1) := by decide +kernel
theorem dX1_validNumberIf_0 : decode cX1_validNumberIf 0 = .ok (.aload_n 0, 1) := by decide +kernel
theorem dX1_validNumberIf_1 : decode cX1_validNumberIf 1 = .ok (.getfield 29, 3) := by decide +kernel
theorem dX1_validNumberIf_4 : decode cX1_validNumberIf 4 = .ok (.iconst 1, 1) := by decide +kernel
theorem dX1_validNumberIf_5 : decode cX1_validNumberIf 5 = .ok (.isub, 1) := by decide +kernel
theorem dX1_validNumberIf_6 : decode cX1_validNumberIf 6 = .ok (.istore_n 2, 1) := by decide +kernel
theorem dX1_validNumberIf_7 : decode cX1_validNumberIf 7 = .ok (.iload_n 2, 1) := by decide +kernel
theorem dX1_validNumberIf_8 : decode cX1_validNumberIf 8 = .ok (.ifCond .lt 30, 3) := by decide +kernel
theorem dX1_validNumberIf_11 : decode cX1_validNumberIf 11 = .ok (.aload_n 0, 1) := by decide +kernel
theorem dX1_validNumberIf_12 : decode cX1_validNumberIf 12 = .ok (.iload_n 2, 1) := by decide +kernel
theorem dX1_validNumberIf_13 : decode cX1_validNumberIf 13 = .ok (.invokevirtual 51, 3) := by decide +kernel
theorem dX1_validNumberIf_16 : decode cX1_validNumberIf 16 = .ok (.astore_n 3, 1) := by decide +kernel
theorem dX1_validNumberIf_17 : decode cX1_validNumberIf 17 = .ok (.aload_n 3, 1) := by decide +kernel
theorem dX1_validNumberIf_18 : decode cX1_validNumberIf 18 = .ok (.ifnull 14, 3) := by decide +kernel
theorem dX1_validNumberIf_21 : decode cX1_validNumberIf 21 = .ok (.aload_n 0, 1) := by decide +kernel
theorem dX1_validNumberIf_22 : decode cX1_validNumberIf 22 = .ok (.aload_n 3, 1) := by decide +kernel
theorem dX1_validNumberIf_23 : decode cX1_validNumberIf 23 = .ok (.iload_n 1, 1) := by decide +kernel
theorem dX1_validNumberIf_24 : decode cX1_validNumberIf 24 = .ok (.invokevirtual 97, 3) := by decide +kernel
theorem dX1_validNumberIf_27 : decode cX1_validNumberIf 27 = .ok (.ifCond .eq 5, 3) := by decide +kernel
theorem dX1_validNumberIf_30 : decode cX1_validNumberIf 30 = .ok (.iload_n 2, 1) := by decide +kernel
theorem dX1_validNumberIf_31 : decode cX1_validNumberIf 31 = .ok (.ireturn, 1) := by decide +kernel
theorem dX1_validNumberIf_32 : decode cX1_validNumberIf 32 = .ok (.iinc 2 (-1), 3) := by decide +kernel
theorem dX1_validNumberIf_35 : decode cX1_validNumberIf 35 = .ok (.goto (-28), 3) := by decide +kernel
theorem dX1_validNumberIf_38 : decode cX1_validNumberIf 38 = .ok (.bipush (-6), 2) := by decide +kernel
theorem dX1_validNumberIf_40 : decode cX1_validNumberIf 40 = .ok (.ireturn, 1) := by decide +kernel
theorem dX1_isReadableIf_0 : decode cX1_isReadableIf 0 = .ok (.aload_n 1, 1) := by decide +kernel
theorem dX1_isReadableIf_1 : decode cX1_isReadableIf 1 = .ok (.getfield 105, 3) := by decide +kernel
theorem dX1_isReadableIf_4 : decode cX1_isReadableIf 4 = .ok (.iconst 1, 1) := by decide +kernel
theorem dX1_isReadableIf_5 : decode cX1_isReadableIf 5 = .ok (.if_icmp .ne 23, 3) := by decide +kernel
theorem dX1_isReadableIf_8 : decode cX1_isReadableIf 8 = .ok (.aload_n 0, 1) := by decide +kernel
theorem dX1_isReadableIf_9 : decode cX1_isReadableIf 9 = .ok (.aload_n 1, 1) := by decide +kernel
theorem dX1_isReadableIf_10 : decode cX1_isReadableIf 10 = .ok (.getfield 108, 3) := by decide +kernel
theorem dX1_isReadableIf_13 : decode cX1_isReadableIf 13 = .ok (.aload_n 1, 1) := by decide +kernel
theorem dX1_isReadableIf_14 : decode cX1_isReadableIf 14 = .ok (.getfield 109, 3) := by decide +kernel
theorem dX1_isReadableIf_17 : decode cX1_isReadableIf 17 = .ok (.iload_n 2, 1) := by decide +kernel
theorem dX1_isReadableIf_18 : decode cX1_isReadableIf 18 = .ok (.invokevirtual 112, 3) := by decide +kernel
theorem dX1_isReadableIf_21 : decode cX1_isReadableIf 21 = .ok (.ifCond .eq 7, 3) := by decide +kernel
theorem dX1_isReadableIf_24 : decode cX1_isReadableIf 24 = .ok (.iconst 1, 1) := by decide +kernel
theorem dX1_isReadableIf_25 : decode cX1_isReadableIf 25 = .ok (.goto 4, 3) := by decide +kernel
theorem dX1_isReadableIf_28 : decode cX1_isReadableIf 28 = .ok (.iconst 0, 1) := by decide +kernel
theorem dX1_isReadableIf_29 : decode cX1_isReadableIf 29 = .ok (.ireturn, 1) := by decide +kernel
theorem dX1_areWholeIf_0 : decode cX1_areWholeIf 0 = .ok (.iload_n 1, 1) := by decide +kernel
theorem dX1_areWholeIf_1 : decode cX1_areWholeIf 1 = .ok (.iload_n 2, 1) := by decide +kernel
theorem dX1_areWholeIf_2 : decode cX1_areWholeIf 2 = .ok (.iadd, 1) := by decide +kernel
theorem dX1_areWholeIf_3 : decode cX1_areWholeIf 3 = .ok (.sipush 240, 3) := by decide +kernel
theorem dX1_areWholeIf_6 : decode cX1_areWholeIf 6 = .ok (.invokestatic 125, 3) := by decide +kernel
theorem dX1_areWholeIf_9 : decode cX1_areWholeIf 9 = .ok (.istore 4, 2) := by decide +kernel
theorem dX1_areWholeIf_11 : decode cX1_areWholeIf 11 = .ok (.iload_n 1, 1) := by decide +kernel
theorem dX1_areWholeIf_12 : decode cX1_areWholeIf 12 = .ok (.iconst 0, 1) := by decide +kernel
theorem dX1_areWholeIf_13 : decode cX1_areWholeIf 13 = .ok (.invokestatic 131, 3) := by decide +kernel
theorem dX1_areWholeIf_16 : decode cX1_areWholeIf 16 = .ok (.istore 5, 2) := by decide +kernel
theorem dX1_areWholeIf_18 : decode cX1_areWholeIf 18 = .ok (.iload 5, 2) := by decide +kernel
theorem dX1_areWholeIf_20 : decode cX1_areWholeIf 20 = .ok (.iload 4, 2) := by decide +kernel
theorem dX1_areWholeIf_22 : decode cX1_areWholeIf 22 = .ok (.if_icmp .ge 27, 3) := by decide +kernel
theorem dX1_areWholeIf_25 : decode cX1_areWholeIf 25 = .ok (.iload 5, 2) := by decide +kernel
theorem dX1_areWholeIf_27 : decode cX1_areWholeIf 27 = .ok (.iload_n 3, 1) := by decide +kernel
theorem dX1_areWholeIf_28 : decode cX1_areWholeIf 28 = .ok (.if_icmp .eq 13, 3) := by decide +kernel
theorem dX1_areWholeIf_31 : decode cX1_areWholeIf 31 = .ok (.aload_n 0, 1) := by decide +kernel
theorem dX1_areWholeIf_32 : decode cX1_areWholeIf 32 = .ok (.getfield 17, 3) := by decide +kernel
theorem dX1_areWholeIf_35 : decode cX1_areWholeIf 35 = .ok (.iload 5, 2) := by decide +kernel
theorem dX1_areWholeIf_37 : decode cX1_areWholeIf 37 = .ok (.baload, 1) := by decide +kernel
theorem dX1_areWholeIf_38 : decode cX1_areWholeIf 38 = .ok (.ifCond .eq 5, 3) := by decide +kernel
theorem dX1_areWholeIf_41 : decode cX1_areWholeIf 41 = .ok (.iconst 0, 1) := by decide +kernel
theorem dX1_areWholeIf_42 : decode cX1_areWholeIf 42 = .ok (.ireturn, 1) := by decide +kernel
theorem dX1_areWholeIf_43 : decode cX1_areWholeIf 43 = .ok (.iinc 5 1, 3) := by decide +kernel
theorem dX1_areWholeIf_46 : decode cX1_areWholeIf 46 = .ok (.goto (-28), 3) := by decide +kernel
theorem dX1_areWholeIf_49 : decode cX1_areWholeIf 49 = .ok (.iconst 1, 1) := by decide +kernel
theorem dX1_areWholeIf_50 : decode cX1_areWholeIf 50 = .ok (.ireturn, 1) := by decide +kernel
theorem dX1_useOf_0 : decode cX1_useOf 0 = .ok (.iconst 0, 1) := by decide +kernel
theorem dX1_useOf_1 : decode cX1_useOf 1 = .ok (.istore_n 2, 1) := by decide +kernel
theorem dX1_useOf_2 : decode cX1_useOf 2 = .ok (.iload_n 2, 1) := by decide +kernel
theorem dX1_useOf_3 : decode cX1_useOf 3 = .ok (.aload_n 0, 1) := by decide +kernel
theorem dX1_useOf_4 : decode cX1_useOf 4 = .ok (.getfield 29, 3) := by decide +kernel
theorem dX1_useOf_7 : decode cX1_useOf 7 = .ok (.if_icmp .ge 33, 3) := by decide +kernel
theorem dX1_useOf_10 : decode cX1_useOf 10 = .ok (.aload_n 0, 1) := by decide +kernel
theorem dX1_useOf_11 : decode cX1_useOf 11 = .ok (.iload_n 2, 1) := by decide +kernel
theorem dX1_useOf_12 : decode cX1_useOf 12 = .ok (.invokevirtual 51, 3) := by decide +kernel
theorem dX1_useOf_15 : decode cX1_useOf 15 = .ok (.astore_n 3, 1) := by decide +kernel
theorem dX1_useOf_16 : decode cX1_useOf 16 = .ok (.aload_n 3, 1) := by decide +kernel
theorem dX1_useOf_17 : decode cX1_useOf 17 = .ok (.ifnull 17, 3) := by decide +kernel
theorem dX1_useOf_20 : decode cX1_useOf 20 = .ok (.aload_n 3, 1) := by decide +kernel
theorem dX1_useOf_21 : decode cX1_useOf 21 = .ok (.iload_n 1, 1) := by decide +kernel
theorem dX1_useOf_22 : decode cX1_useOf 22 = .ok (.invokevirtual 134, 3) := by decide +kernel
theorem dX1_useOf_25 : decode cX1_useOf 25 = .ok (.ifCond .eq 9, 3) := by decide +kernel
theorem dX1_useOf_28 : decode cX1_useOf 28 = .ok (.aload_n 3, 1) := by decide +kernel
theorem dX1_useOf_29 : decode cX1_useOf 29 = .ok (.iload_n 1, 1) := by decide +kernel
theorem dX1_useOf_30 : decode cX1_useOf 30 = .ok (.invokevirtual 137, 3) := by decide +kernel
theorem dX1_useOf_33 : decode cX1_useOf 33 = .ok (.ireturn, 1) := by decide +kernel
theorem dX1_useOf_34 : decode cX1_useOf 34 = .ok (.iinc 2 1, 3) := by decide +kernel
theorem dX1_useOf_37 : decode cX1_useOf 37 = .ok (.goto (-35), 3) := by decide +kernel
theorem dX1_useOf_40 : decode cX1_useOf 40 = .ok (.iconst 0, 1) := by decide +kernel
theorem dX1_useOf_41 : decode cX1_useOf 41 = .ok (.ireturn, 1) := by decide +kernel
theorem dX1_isIntactIf_0 : decode cX1_isIntactIf 0 = .ok (.aload_n 0, 1) := by decide +kernel
theorem dX1_isIntactIf_1 : decode cX1_isIntactIf 1 = .ok (.aload_n 1, 1) := by decide +kernel
theorem dX1_isIntactIf_2 : decode cX1_isIntactIf 2 = .ok (.getfield 87, 3) := by decide +kernel
theorem dX1_isIntactIf_5 : decode cX1_isIntactIf 5 = .ok (.aload_n 1, 1) := by decide +kernel
theorem dX1_isIntactIf_6 : decode cX1_isIntactIf 6 = .ok (.getfield 140, 3) := by decide +kernel
theorem dX1_isIntactIf_9 : decode cX1_isIntactIf 9 = .ok (.iload_n 2, 1) := by decide +kernel
theorem dX1_isIntactIf_10 : decode cX1_isIntactIf 10 = .ok (.invokevirtual 112, 3) := by decide +kernel
theorem dX1_isIntactIf_13 : decode cX1_isIntactIf 13 = .ok (.ireturn, 1) := by decide +kernel
theorem dX1_foundFile_0 : decode cX1_foundFile 0 = .ok (.aload_n 0, 1) := by decide +kernel
theorem dX1_foundFile_1 : decode cX1_foundFile 1 = .ok (.aload_n 0, 1) := by decide +kernel
theorem dX1_foundFile_2 : decode cX1_foundFile 2 = .ok (.iconst (-1), 1) := by decide +kernel
theorem dX1_foundFile_3 : decode cX1_foundFile 3 = .ok (.invokevirtual 47, 3) := by decide +kernel
theorem dX1_foundFile_6 : decode cX1_foundFile 6 = .ok (.invokevirtual 51, 3) := by decide +kernel
theorem dX1_foundFile_9 : decode cX1_foundFile 9 = .ok (.astore_n 2, 1) := by decide +kernel
theorem dX1_foundFile_10 : decode cX1_foundFile 10 = .ok (.aload_n 2, 1) := by decide +kernel
theorem dX1_foundFile_11 : decode cX1_foundFile 11 = .ok (.ifnonnull 7, 3) := by decide +kernel
theorem dX1_foundFile_14 : decode cX1_foundFile 14 = .ok (.aconst_null, 1) := by decide +kernel
theorem dX1_foundFile_15 : decode cX1_foundFile 15 = .ok (.goto 8, 3) := by decide +kernel
theorem dX1_foundFile_18 : decode cX1_foundFile 18 = .ok (.aload_n 2, 1) := by decide +kernel
theorem dX1_foundFile_19 : decode cX1_foundFile 19 = .ok (.iload_n 1, 1) := by decide +kernel
theorem dX1_foundFile_20 : decode cX1_foundFile 20 = .ok (.invokevirtual 90, 3) := by decide +kernel
theorem dX1_foundFile_23 : decode cX1_foundFile 23 = .ok (.areturn, 1) := by decide +kernel
theorem dX1_countIntactIf_0 : decode cX1_countIntactIf 0 = .ok (.aload_n 0, 1) := by decide +kernel
theorem dX1_countIntactIf_1 : decode cX1_countIntactIf 1 = .ok (.aload_n 0, 1) := by decide +kernel
theorem dX1_countIntactIf_2 : decode cX1_countIntactIf 2 = .ok (.iload_n 1, 1) := by decide +kernel
theorem dX1_countIntactIf_3 : decode cX1_countIntactIf 3 = .ok (.invokevirtual 47, 3) := by decide +kernel
theorem dX1_countIntactIf_6 : decode cX1_countIntactIf 6 = .ok (.invokevirtual 51, 3) := by decide +kernel
theorem dX1_countIntactIf_9 : decode cX1_countIntactIf 9 = .ok (.astore_n 2, 1) := by decide +kernel
theorem dX1_countIntactIf_10 : decode cX1_countIntactIf 10 = .ok (.aload_n 2, 1) := by decide +kernel
theorem dX1_countIntactIf_11 : decode cX1_countIntactIf 11 = .ok (.ifnonnull 5, 3) := by decide +kernel
theorem dX1_countIntactIf_14 : decode cX1_countIntactIf 14 = .ok (.iconst 0, 1) := by decide +kernel
theorem dX1_countIntactIf_15 : decode cX1_countIntactIf 15 = .ok (.ireturn, 1) := by decide +kernel
theorem dX1_countIntactIf_16 : decode cX1_countIntactIf 16 = .ok (.iconst 0, 1) := by decide +kernel
theorem dX1_countIntactIf_17 : decode cX1_countIntactIf 17 = .ok (.istore_n 3, 1) := by decide +kernel
theorem dX1_countIntactIf_18 : decode cX1_countIntactIf 18 = .ok (.iconst 0, 1) := by decide +kernel
theorem dX1_countIntactIf_19 : decode cX1_countIntactIf 19 = .ok (.istore 4, 2) := by decide +kernel
theorem dX1_countIntactIf_21 : decode cX1_countIntactIf 21 = .ok (.iload 4, 2) := by decide +kernel
theorem dX1_countIntactIf_23 : decode cX1_countIntactIf 23 = .ok (.bipush 20, 2) := by decide +kernel
theorem dX1_countIntactIf_25 : decode cX1_countIntactIf 25 = .ok (.if_icmp .ge 35, 3) := by decide +kernel
theorem dX1_countIntactIf_28 : decode cX1_countIntactIf 28 = .ok (.aload_n 2, 1) := by decide +kernel
theorem dX1_countIntactIf_29 : decode cX1_countIntactIf 29 = .ok (.iload 4, 2) := by decide +kernel
theorem dX1_countIntactIf_31 : decode cX1_countIntactIf 31 = .ok (.invokevirtual 90, 3) := by decide +kernel
theorem dX1_countIntactIf_34 : decode cX1_countIntactIf 34 = .ok (.astore 5, 2) := by decide +kernel
theorem dX1_countIntactIf_36 : decode cX1_countIntactIf 36 = .ok (.aload 5, 2) := by decide +kernel
theorem dX1_countIntactIf_38 : decode cX1_countIntactIf 38 = .ok (.ifnull 16, 3) := by decide +kernel
theorem dX1_countIntactIf_41 : decode cX1_countIntactIf 41 = .ok (.aload_n 0, 1) := by decide +kernel
theorem dX1_countIntactIf_42 : decode cX1_countIntactIf 42 = .ok (.aload 5, 2) := by decide +kernel
theorem dX1_countIntactIf_44 : decode cX1_countIntactIf 44 = .ok (.iload_n 1, 1) := by decide +kernel
theorem dX1_countIntactIf_45 : decode cX1_countIntactIf 45 = .ok (.invokevirtual 143, 3) := by decide +kernel
theorem dX1_countIntactIf_48 : decode cX1_countIntactIf 48 = .ok (.ifCond .eq 6, 3) := by decide +kernel
theorem dX1_countIntactIf_51 : decode cX1_countIntactIf 51 = .ok (.iinc 3 1, 3) := by decide +kernel
theorem dX1_countIntactIf_54 : decode cX1_countIntactIf 54 = .ok (.iinc 4 1, 3) := by decide +kernel
theorem dX1_countIntactIf_57 : decode cX1_countIntactIf 57 = .ok (.goto (-36), 3) := by decide +kernel
theorem dX1_countIntactIf_60 : decode cX1_countIntactIf 60 = .ok (.iload_n 3, 1) := by decide +kernel
theorem dX1_countIntactIf_61 : decode cX1_countIntactIf 61 = .ok (.ireturn, 1) := by decide +kernel
theorem dX1_latestWithIntact_0 : decode cX1_latestWithIntact 0 = .ok (.aload_n 0, 1) := by decide +kernel
theorem dX1_latestWithIntact_1 : decode cX1_latestWithIntact 1 = .ok (.getfield 29, 3) := by decide +kernel
theorem dX1_latestWithIntact_4 : decode cX1_latestWithIntact 4 = .ok (.iconst 1, 1) := by decide +kernel
theorem dX1_latestWithIntact_5 : decode cX1_latestWithIntact 5 = .ok (.isub, 1) := by decide +kernel
theorem dX1_latestWithIntact_6 : decode cX1_latestWithIntact 6 = .ok (.istore_n 2, 1) := by decide +kernel
theorem dX1_latestWithIntact_7 : decode cX1_latestWithIntact 7 = .ok (.iload_n 2, 1) := by decide +kernel
theorem dX1_latestWithIntact_8 : decode cX1_latestWithIntact 8 = .ok (.ifCond .lt 52, 3) := by decide +kernel
theorem dX1_latestWithIntact_11 : decode cX1_latestWithIntact 11 = .ok (.aload_n 0, 1) := by decide +kernel
theorem dX1_latestWithIntact_12 : decode cX1_latestWithIntact 12 = .ok (.iload_n 2, 1) := by decide +kernel
theorem dX1_latestWithIntact_13 : decode cX1_latestWithIntact 13 = .ok (.invokevirtual 51, 3) := by decide +kernel
theorem dX1_latestWithIntact_16 : decode cX1_latestWithIntact 16 = .ok (.astore_n 3, 1) := by decide +kernel
theorem dX1_latestWithIntact_17 : decode cX1_latestWithIntact 17 = .ok (.aload_n 3, 1) := by decide +kernel
theorem dX1_latestWithIntact_18 : decode cX1_latestWithIntact 18 = .ok (.ifnull 36, 3) := by decide +kernel
theorem dX1_latestWithIntact_21 : decode cX1_latestWithIntact 21 = .ok (.aload_n 0, 1) := by decide +kernel
theorem dX1_latestWithIntact_22 : decode cX1_latestWithIntact 22 = .ok (.aload_n 3, 1) := by decide +kernel
theorem dX1_latestWithIntact_23 : decode cX1_latestWithIntact 23 = .ok (.iconst (-1), 1) := by decide +kernel
theorem dX1_latestWithIntact_24 : decode cX1_latestWithIntact 24 = .ok (.invokevirtual 97, 3) := by decide +kernel
theorem dX1_latestWithIntact_27 : decode cX1_latestWithIntact 27 = .ok (.ifCond .eq 27, 3) := by decide +kernel
theorem dX1_latestWithIntact_30 : decode cX1_latestWithIntact 30 = .ok (.aload_n 3, 1) := by decide +kernel
theorem dX1_latestWithIntact_31 : decode cX1_latestWithIntact 31 = .ok (.iload_n 1, 1) := by decide +kernel
theorem dX1_latestWithIntact_32 : decode cX1_latestWithIntact 32 = .ok (.invokevirtual 90, 3) := by decide +kernel
theorem dX1_latestWithIntact_35 : decode cX1_latestWithIntact 35 = .ok (.astore 4, 2) := by decide +kernel
theorem dX1_latestWithIntact_37 : decode cX1_latestWithIntact 37 = .ok (.aload 4, 2) := by decide +kernel
theorem dX1_latestWithIntact_39 : decode cX1_latestWithIntact 39 = .ok (.ifnull 15, 3) := by decide +kernel
theorem dX1_latestWithIntact_42 : decode cX1_latestWithIntact 42 = .ok (.aload_n 0, 1) := by decide +kernel
theorem dX1_latestWithIntact_43 : decode cX1_latestWithIntact 43 = .ok (.aload 4, 2) := by decide +kernel
theorem dX1_latestWithIntact_45 : decode cX1_latestWithIntact 45 = .ok (.iconst (-1), 1) := by decide +kernel
theorem dX1_latestWithIntact_46 : decode cX1_latestWithIntact 46 = .ok (.invokevirtual 143, 3) := by decide +kernel
theorem dX1_latestWithIntact_49 : decode cX1_latestWithIntact 49 = .ok (.ifCond .eq 5, 3) := by decide +kernel
theorem dX1_latestWithIntact_52 : decode cX1_latestWithIntact 52 = .ok (.iload_n 2, 1) := by decide +kernel
theorem dX1_latestWithIntact_53 : decode cX1_latestWithIntact 53 = .ok (.ireturn, 1) := by decide +kernel
theorem dX1_latestWithIntact_54 : decode cX1_latestWithIntact 54 = .ok (.iinc 2 (-1), 3) := by decide +kernel
theorem dX1_latestWithIntact_57 : decode cX1_latestWithIntact 57 = .ok (.goto (-50), 3) := by decide +kernel
theorem dX1_latestWithIntact_60 : decode cX1_latestWithIntact 60 = .ok (.bipush (-6), 2) := by decide +kernel
theorem dX1_latestWithIntact_62 : decode cX1_latestWithIntact 62 = .ok (.ireturn, 1) := by decide +kernel
theorem dX1_countFoundSectors_0 : decode cX1_countFoundSectors 0 = .ok (.aload_n 0, 1) := by decide +kernel
theorem dX1_countFoundSectors_1 : decode cX1_countFoundSectors 1 = .ok (.aload_n 0, 1) := by decide +kernel
theorem dX1_countFoundSectors_2 : decode cX1_countFoundSectors 2 = .ok (.iconst (-1), 1) := by decide +kernel
theorem dX1_countFoundSectors_3 : decode cX1_countFoundSectors 3 = .ok (.invokevirtual 47, 3) := by decide +kernel
theorem dX1_countFoundSectors_6 : decode cX1_countFoundSectors 6 = .ok (.invokevirtual 51, 3) := by decide +kernel
theorem dX1_countFoundSectors_9 : decode cX1_countFoundSectors 9 = .ok (.astore_n 1, 1) := by decide +kernel
theorem dX1_countFoundSectors_10 : decode cX1_countFoundSectors 10 = .ok (.aload_n 1, 1) := by decide +kernel
theorem dX1_countFoundSectors_11 : decode cX1_countFoundSectors 11 = .ok (.ifnonnull 5, 3) := by decide +kernel
theorem dX1_countFoundSectors_14 : decode cX1_countFoundSectors 14 = .ok (.iconst 0, 1) := by decide +kernel
theorem dX1_countFoundSectors_15 : decode cX1_countFoundSectors 15 = .ok (.ireturn, 1) := by decide +kernel
theorem dX1_countFoundSectors_16 : decode cX1_countFoundSectors 16 = .ok (.iconst 0, 1) := by decide +kernel
theorem dX1_countFoundSectors_17 : decode cX1_countFoundSectors 17 = .ok (.istore_n 2, 1) := by decide +kernel
theorem dX1_countFoundSectors_18 : decode cX1_countFoundSectors 18 = .ok (.iconst 0, 1) := by decide +kernel
theorem dX1_countFoundSectors_19 : decode cX1_countFoundSectors 19 = .ok (.istore_n 3, 1) := by decide +kernel
theorem dX1_countFoundSectors_20 : decode cX1_countFoundSectors 20 = .ok (.iload_n 3, 1) := by decide +kernel
theorem dX1_countFoundSectors_21 : decode cX1_countFoundSectors 21 = .ok (.bipush 20, 2) := by decide +kernel
theorem dX1_countFoundSectors_23 : decode cX1_countFoundSectors 23 = .ok (.if_icmp .ge 33, 3) := by decide +kernel
theorem dX1_countFoundSectors_26 : decode cX1_countFoundSectors 26 = .ok (.aload_n 1, 1) := by decide +kernel
theorem dX1_countFoundSectors_27 : decode cX1_countFoundSectors 27 = .ok (.iload_n 3, 1) := by decide +kernel
theorem dX1_countFoundSectors_28 : decode cX1_countFoundSectors 28 = .ok (.invokevirtual 90, 3) := by decide +kernel
theorem dX1_countFoundSectors_31 : decode cX1_countFoundSectors 31 = .ok (.astore 4, 2) := by decide +kernel
theorem dX1_countFoundSectors_33 : decode cX1_countFoundSectors 33 = .ok (.iload_n 2, 1) := by decide +kernel
theorem dX1_countFoundSectors_34 : decode cX1_countFoundSectors 34 = .ok (.aload 4, 2) := by decide +kernel
theorem dX1_countFoundSectors_36 : decode cX1_countFoundSectors 36 = .ok (.ifnonnull 7, 3) := by decide +kernel
theorem dX1_countFoundSectors_39 : decode cX1_countFoundSectors 39 = .ok (.iconst 0, 1) := by decide +kernel
theorem dX1_countFoundSectors_40 : decode cX1_countFoundSectors 40 = .ok (.goto 8, 3) := by decide +kernel
theorem dX1_countFoundSectors_43 : decode cX1_countFoundSectors 43 = .ok (.aload 4, 2) := by decide +kernel
theorem dX1_countFoundSectors_45 : decode cX1_countFoundSectors 45 = .ok (.getfield 140, 3) := by decide +kernel
theorem dX1_countFoundSectors_48 : decode cX1_countFoundSectors 48 = .ok (.iadd, 1) := by decide +kernel
theorem dX1_countFoundSectors_49 : decode cX1_countFoundSectors 49 = .ok (.istore_n 2, 1) := by decide +kernel
theorem dX1_countFoundSectors_50 : decode cX1_countFoundSectors 50 = .ok (.iinc 3 1, 3) := by decide +kernel
theorem dX1_countFoundSectors_53 : decode cX1_countFoundSectors 53 = .ok (.goto (-33), 3) := by decide +kernel
theorem dX1_countFoundSectors_56 : decode cX1_countFoundSectors 56 = .ok (.iload_n 2, 1) := by decide +kernel
theorem dX1_countFoundSectors_57 : decode cX1_countFoundSectors 57 = .ok (.ireturn, 1) := by decide +kernel
theorem dX1_roomForFiles_0 : decode cX1_roomForFiles 0 = .ok (.aload_n 0, 1) := by decide +kernel
theorem dX1_roomForFiles_1 : decode cX1_roomForFiles 1 = .ok (.invokevirtual 43, 3) := by decide +kernel
theorem dX1_roomForFiles_4 : decode cX1_roomForFiles 4 = .ok (.astore_n 1, 1) := by decide +kernel
theorem dX1_roomForFiles_5 : decode cX1_roomForFiles 5 = .ok (.aload_n 1, 1) := by decide +kernel
theorem dX1_roomForFiles_6 : decode cX1_roomForFiles 6 = .ok (.ifnull 21, 3) := by decide +kernel
theorem dX1_roomForFiles_9 : decode cX1_roomForFiles 9 = .ok (.sipush 240, 3) := by decide +kernel
theorem dX1_roomForFiles_12 : decode cX1_roomForFiles 12 = .ok (.aload_n 0, 1) := by decide +kernel
theorem dX1_roomForFiles_13 : decode cX1_roomForFiles 13 = .ok (.getfield 33, 3) := by decide +kernel
theorem dX1_roomForFiles_16 : decode cX1_roomForFiles 16 = .ok (.isub, 1) := by decide +kernel
theorem dX1_roomForFiles_17 : decode cX1_roomForFiles 17 = .ok (.aload_n 1, 1) := by decide +kernel
theorem dX1_roomForFiles_18 : decode cX1_roomForFiles 18 = .ok (.getfield 122, 3) := by decide +kernel
theorem dX1_roomForFiles_21 : decode cX1_roomForFiles 21 = .ok (.isub, 1) := by decide +kernel
theorem dX1_roomForFiles_22 : decode cX1_roomForFiles 22 = .ok (.iconst 0, 1) := by decide +kernel
theorem dX1_roomForFiles_23 : decode cX1_roomForFiles 23 = .ok (.invokestatic 131, 3) := by decide +kernel
theorem dX1_roomForFiles_26 : decode cX1_roomForFiles 26 = .ok (.ireturn, 1) := by decide +kernel
theorem dX1_roomForFiles_27 : decode cX1_roomForFiles 27 = .ok (.aload_n 0, 1) := by decide +kernel
theorem dX1_roomForFiles_28 : decode cX1_roomForFiles 28 = .ok (.getfield 29, 3) := by decide +kernel
theorem dX1_roomForFiles_31 : decode cX1_roomForFiles 31 = .ok (.bipush 12, 2) := by decide +kernel
theorem dX1_roomForFiles_33 : decode cX1_roomForFiles 33 = .ok (.if_icmp .lt 5, 3) := by decide +kernel
theorem dX1_roomForFiles_36 : decode cX1_roomForFiles 36 = .ok (.iconst 0, 1) := by decide +kernel
theorem dX1_roomForFiles_37 : decode cX1_roomForFiles 37 = .ok (.ireturn, 1) := by decide +kernel
theorem dX1_roomForFiles_38 : decode cX1_roomForFiles 38 = .ok (.sipush 240, 3) := by decide +kernel
theorem dX1_roomForFiles_41 : decode cX1_roomForFiles 41 = .ok (.aload_n 0, 1) := by decide +kernel
theorem dX1_roomForFiles_42 : decode cX1_roomForFiles 42 = .ok (.getfield 33, 3) := by decide +kernel
theorem dX1_roomForFiles_45 : decode cX1_roomForFiles 45 = .ok (.isub, 1) := by decide +kernel
theorem dX1_roomForFiles_46 : decode cX1_roomForFiles 46 = .ok (.aload_n 0, 1) := by decide +kernel
theorem dX1_roomForFiles_47 : decode cX1_roomForFiles 47 = .ok (.getfield 25, 3) := by decide +kernel
theorem dX1_roomForFiles_50 : decode cX1_roomForFiles 50 = .ok (.iconst 0, 1) := by decide +kernel
theorem dX1_roomForFiles_51 : decode cX1_roomForFiles 51 = .ok (.iaload, 1) := by decide +kernel
theorem dX1_roomForFiles_52 : decode cX1_roomForFiles 52 = .ok (.isub, 1) := by decide +kernel
theorem dX1_roomForFiles_53 : decode cX1_roomForFiles 53 = .ok (.aload_n 0, 1) := by decide +kernel
theorem dX1_roomForFiles_54 : decode cX1_roomForFiles 54 = .ok (.getfield 25, 3) := by decide +kernel
theorem dX1_roomForFiles_57 : decode cX1_roomForFiles 57 = .ok (.iconst 1, 1) := by decide +kernel
theorem dX1_roomForFiles_58 : decode cX1_roomForFiles 58 = .ok (.iaload, 1) := by decide +kernel
theorem dX1_roomForFiles_59 : decode cX1_roomForFiles 59 = .ok (.isub, 1) := by decide +kernel
theorem dX1_roomForFiles_60 : decode cX1_roomForFiles 60 = .ok (.iconst 0, 1) := by decide +kernel
theorem dX1_roomForFiles_61 : decode cX1_roomForFiles 61 = .ok (.invokestatic 131, 3) := by decide +kernel
theorem dX1_roomForFiles_64 : decode cX1_roomForFiles 64 = .ok (.ireturn, 1) := by decide +kernel
theorem dX1_sessionsOfOneFile_0 : decode cX1_sessionsOfOneFile 0 = .ok (.iconst 0, 1) := by decide +kernel
theorem dX1_sessionsOfOneFile_1 : decode cX1_sessionsOfOneFile 1 = .ok (.istore_n 2, 1) := by decide +kernel
theorem dX1_sessionsOfOneFile_2 : decode cX1_sessionsOfOneFile 2 = .ok (.aload_n 0, 1) := by decide +kernel
theorem dX1_sessionsOfOneFile_3 : decode cX1_sessionsOfOneFile 3 = .ok (.getfield 33, 3) := by decide +kernel
theorem dX1_sessionsOfOneFile_6 : decode cX1_sessionsOfOneFile 6 = .ok (.istore_n 3, 1) := by decide +kernel
theorem dX1_sessionsOfOneFile_7 : decode cX1_sessionsOfOneFile 7 = .ok (.aload_n 0, 1) := by decide +kernel
theorem dX1_sessionsOfOneFile_8 : decode cX1_sessionsOfOneFile 8 = .ok (.invokevirtual 43, 3) := by decide +kernel
theorem dX1_sessionsOfOneFile_11 : decode cX1_sessionsOfOneFile 11 = .ok (.astore 4, 2) := by decide +kernel
theorem dX1_sessionsOfOneFile_13 : decode cX1_sessionsOfOneFile 13 = .ok (.aload 4, 2) := by decide +kernel
theorem dX1_sessionsOfOneFile_15 : decode cX1_sessionsOfOneFile 15 = .ok (.ifnull 24, 3) := by decide +kernel
theorem dX1_sessionsOfOneFile_18 : decode cX1_sessionsOfOneFile 18 = .ok (.iload_n 3, 1) := by decide +kernel
theorem dX1_sessionsOfOneFile_19 : decode cX1_sessionsOfOneFile 19 = .ok (.iload_n 1, 1) := by decide +kernel
theorem dX1_sessionsOfOneFile_20 : decode cX1_sessionsOfOneFile 20 = .ok (.aload 4, 2) := by decide +kernel
theorem dX1_sessionsOfOneFile_22 : decode cX1_sessionsOfOneFile 22 = .ok (.getfield 122, 3) := by decide +kernel
theorem dX1_sessionsOfOneFile_25 : decode cX1_sessionsOfOneFile 25 = .ok (.iadd, 1) := by decide +kernel
theorem dX1_sessionsOfOneFile_26 : decode cX1_sessionsOfOneFile 26 = .ok (.iadd, 1) := by decide +kernel
theorem dX1_sessionsOfOneFile_27 : decode cX1_sessionsOfOneFile 27 = .ok (.istore_n 3, 1) := by decide +kernel
theorem dX1_sessionsOfOneFile_28 : decode cX1_sessionsOfOneFile 28 = .ok (.iload_n 3, 1) := by decide +kernel
theorem dX1_sessionsOfOneFile_29 : decode cX1_sessionsOfOneFile 29 = .ok (.sipush 240, 3) := by decide +kernel
theorem dX1_sessionsOfOneFile_32 : decode cX1_sessionsOfOneFile 32 = .ok (.if_icmp .le 5, 3) := by decide +kernel
theorem dX1_sessionsOfOneFile_35 : decode cX1_sessionsOfOneFile 35 = .ok (.iconst 0, 1) := by decide +kernel
theorem dX1_sessionsOfOneFile_36 : decode cX1_sessionsOfOneFile 36 = .ok (.ireturn, 1) := by decide +kernel
theorem dX1_sessionsOfOneFile_37 : decode cX1_sessionsOfOneFile 37 = .ok (.iconst 1, 1) := by decide +kernel
theorem dX1_sessionsOfOneFile_38 : decode cX1_sessionsOfOneFile 38 = .ok (.istore_n 2, 1) := by decide +kernel
theorem dX1_sessionsOfOneFile_39 : decode cX1_sessionsOfOneFile 39 = .ok (.aload_n 0, 1) := by decide +kernel
theorem dX1_sessionsOfOneFile_40 : decode cX1_sessionsOfOneFile 40 = .ok (.getfield 25, 3) := by decide +kernel
theorem dX1_sessionsOfOneFile_43 : decode cX1_sessionsOfOneFile 43 = .ok (.iconst 0, 1) := by decide +kernel
theorem dX1_sessionsOfOneFile_44 : decode cX1_sessionsOfOneFile 44 = .ok (.iaload, 1) := by decide +kernel
theorem dX1_sessionsOfOneFile_45 : decode cX1_sessionsOfOneFile 45 = .ok (.iload_n 1, 1) := by decide +kernel
theorem dX1_sessionsOfOneFile_46 : decode cX1_sessionsOfOneFile 46 = .ok (.iadd, 1) := by decide +kernel
theorem dX1_sessionsOfOneFile_47 : decode cX1_sessionsOfOneFile 47 = .ok (.aload_n 0, 1) := by decide +kernel
theorem dX1_sessionsOfOneFile_48 : decode cX1_sessionsOfOneFile 48 = .ok (.getfield 25, 3) := by decide +kernel
theorem dX1_sessionsOfOneFile_51 : decode cX1_sessionsOfOneFile 51 = .ok (.iconst 1, 1) := by decide +kernel
theorem dX1_sessionsOfOneFile_52 : decode cX1_sessionsOfOneFile 52 = .ok (.iaload, 1) := by decide +kernel
theorem dX1_sessionsOfOneFile_53 : decode cX1_sessionsOfOneFile 53 = .ok (.iadd, 1) := by decide +kernel
theorem dX1_sessionsOfOneFile_54 : decode cX1_sessionsOfOneFile 54 = .ok (.istore 5, 2) := by decide +kernel
theorem dX1_sessionsOfOneFile_56 : decode cX1_sessionsOfOneFile 56 = .ok (.aload_n 0, 1) := by decide +kernel
theorem dX1_sessionsOfOneFile_57 : decode cX1_sessionsOfOneFile 57 = .ok (.getfield 29, 3) := by decide +kernel
theorem dX1_sessionsOfOneFile_60 : decode cX1_sessionsOfOneFile 60 = .ok (.istore 6, 2) := by decide +kernel
theorem dX1_sessionsOfOneFile_62 : decode cX1_sessionsOfOneFile 62 = .ok (.iload 6, 2) := by decide +kernel
theorem dX1_sessionsOfOneFile_64 : decode cX1_sessionsOfOneFile 64 = .ok (.bipush 12, 2) := by decide +kernel
theorem dX1_sessionsOfOneFile_66 : decode cX1_sessionsOfOneFile 66 = .ok (.if_icmp .ge 27, 3) := by decide +kernel
theorem dX1_sessionsOfOneFile_69 : decode cX1_sessionsOfOneFile 69 = .ok (.iload_n 3, 1) := by decide +kernel
theorem dX1_sessionsOfOneFile_70 : decode cX1_sessionsOfOneFile 70 = .ok (.iload 5, 2) := by decide +kernel
theorem dX1_sessionsOfOneFile_72 : decode cX1_sessionsOfOneFile 72 = .ok (.iadd, 1) := by decide +kernel
theorem dX1_sessionsOfOneFile_73 : decode cX1_sessionsOfOneFile 73 = .ok (.sipush 240, 3) := by decide +kernel
theorem dX1_sessionsOfOneFile_76 : decode cX1_sessionsOfOneFile 76 = .ok (.if_icmp .gt 17, 3) := by decide +kernel
theorem dX1_sessionsOfOneFile_79 : decode cX1_sessionsOfOneFile 79 = .ok (.iload_n 3, 1) := by decide +kernel
theorem dX1_sessionsOfOneFile_80 : decode cX1_sessionsOfOneFile 80 = .ok (.iload 5, 2) := by decide +kernel
theorem dX1_sessionsOfOneFile_82 : decode cX1_sessionsOfOneFile 82 = .ok (.iadd, 1) := by decide +kernel
theorem dX1_sessionsOfOneFile_83 : decode cX1_sessionsOfOneFile 83 = .ok (.istore_n 3, 1) := by decide +kernel
theorem dX1_sessionsOfOneFile_84 : decode cX1_sessionsOfOneFile 84 = .ok (.iinc 2 1, 3) := by decide +kernel
theorem dX1_sessionsOfOneFile_87 : decode cX1_sessionsOfOneFile 87 = .ok (.iinc 6 1, 3) := by decide +kernel
theorem dX1_sessionsOfOneFile_90 : decode cX1_sessionsOfOneFile 90 = .ok (.goto (-28), 3) := by decide +kernel
theorem dX1_sessionsOfOneFile_93 : decode cX1_sessionsOfOneFile 93 = .ok (.iload_n 2, 1) := by decide +kernel
theorem dX1_sessionsOfOneFile_94 : decode cX1_sessionsOfOneFile 94 = .ok (.ireturn, 1) := by decide +kernel
theorem dX1_mostHarmfulSector_0 : decode cX1_mostHarmfulSector 0 = .ok (.aload_n 0, 1) := by decide +kernel
theorem dX1_mostHarmfulSector_1 : decode cX1_mostHarmfulSector 1 = .ok (.aload_n 0, 1) := by decide +kernel
theorem dX1_mostHarmfulSector_2 : decode cX1_mostHarmfulSector 2 = .ok (.iconst (-1), 1) := by decide +kernel
theorem dX1_mostHarmfulSector_3 : decode cX1_mostHarmfulSector 3 = .ok (.invokevirtual 47, 3) := by decide +kernel
theorem dX1_mostHarmfulSector_6 : decode cX1_mostHarmfulSector 6 = .ok (.invokevirtual 51, 3) := by decide +kernel
theorem dX1_mostHarmfulSector_9 : decode cX1_mostHarmfulSector 9 = .ok (.astore_n 1, 1) := by decide +kernel
theorem dX1_mostHarmfulSector_10 : decode cX1_mostHarmfulSector 10 = .ok (.aload_n 1, 1) := by decide +kernel
theorem dX1_mostHarmfulSector_11 : decode cX1_mostHarmfulSector 11 = .ok (.ifnonnull 5, 3) := by decide +kernel
theorem dX1_mostHarmfulSector_14 : decode cX1_mostHarmfulSector 14 = .ok (.iconst 0, 1) := by decide +kernel
theorem dX1_mostHarmfulSector_15 : decode cX1_mostHarmfulSector 15 = .ok (.ireturn, 1) := by decide +kernel
theorem dX1_mostHarmfulSector_16 : decode cX1_mostHarmfulSector 16 = .ok (.aload_n 0, 1) := by decide +kernel
theorem dX1_mostHarmfulSector_17 : decode cX1_mostHarmfulSector 17 = .ok (.iconst 0, 1) := by decide +kernel
theorem dX1_mostHarmfulSector_18 : decode cX1_mostHarmfulSector 18 = .ok (.aload_n 1, 1) := by decide +kernel
theorem dX1_mostHarmfulSector_19 : decode cX1_mostHarmfulSector 19 = .ok (.getfield 108, 3) := by decide +kernel
theorem dX1_mostHarmfulSector_22 : decode cX1_mostHarmfulSector 22 = .ok (.invokevirtual 147, 3) := by decide +kernel
theorem dX1_mostHarmfulSector_25 : decode cX1_mostHarmfulSector 25 = .ok (.istore_n 2, 1) := by decide +kernel
theorem dX1_mostHarmfulSector_26 : decode cX1_mostHarmfulSector 26 = .ok (.iconst 0, 1) := by decide +kernel
theorem dX1_mostHarmfulSector_27 : decode cX1_mostHarmfulSector 27 = .ok (.istore_n 3, 1) := by decide +kernel
theorem dX1_mostHarmfulSector_28 : decode cX1_mostHarmfulSector 28 = .ok (.iload_n 3, 1) := by decide +kernel
theorem dX1_mostHarmfulSector_29 : decode cX1_mostHarmfulSector 29 = .ok (.bipush 20, 2) := by decide +kernel
theorem dX1_mostHarmfulSector_31 : decode cX1_mostHarmfulSector 31 = .ok (.if_icmp .ge 32, 3) := by decide +kernel
theorem dX1_mostHarmfulSector_34 : decode cX1_mostHarmfulSector 34 = .ok (.aload_n 1, 1) := by decide +kernel
theorem dX1_mostHarmfulSector_35 : decode cX1_mostHarmfulSector 35 = .ok (.iload_n 3, 1) := by decide +kernel
theorem dX1_mostHarmfulSector_36 : decode cX1_mostHarmfulSector 36 = .ok (.invokevirtual 90, 3) := by decide +kernel
theorem dX1_mostHarmfulSector_39 : decode cX1_mostHarmfulSector 39 = .ok (.astore 4, 2) := by decide +kernel
theorem dX1_mostHarmfulSector_41 : decode cX1_mostHarmfulSector 41 = .ok (.aload 4, 2) := by decide +kernel
theorem dX1_mostHarmfulSector_43 : decode cX1_mostHarmfulSector 43 = .ok (.ifnull 14, 3) := by decide +kernel
theorem dX1_mostHarmfulSector_46 : decode cX1_mostHarmfulSector 46 = .ok (.aload_n 0, 1) := by decide +kernel
theorem dX1_mostHarmfulSector_47 : decode cX1_mostHarmfulSector 47 = .ok (.iload_n 2, 1) := by decide +kernel
theorem dX1_mostHarmfulSector_48 : decode cX1_mostHarmfulSector 48 = .ok (.aload 4, 2) := by decide +kernel
theorem dX1_mostHarmfulSector_50 : decode cX1_mostHarmfulSector 50 = .ok (.getfield 87, 3) := by decide +kernel
theorem dX1_mostHarmfulSector_53 : decode cX1_mostHarmfulSector 53 = .ok (.invokevirtual 147, 3) := by decide +kernel
theorem dX1_mostHarmfulSector_56 : decode cX1_mostHarmfulSector 56 = .ok (.istore_n 2, 1) := by decide +kernel
theorem dX1_mostHarmfulSector_57 : decode cX1_mostHarmfulSector 57 = .ok (.iinc 3 1, 3) := by decide +kernel
theorem dX1_mostHarmfulSector_60 : decode cX1_mostHarmfulSector 60 = .ok (.goto (-32), 3) := by decide +kernel
theorem dX1_mostHarmfulSector_63 : decode cX1_mostHarmfulSector 63 = .ok (.iload_n 2, 1) := by decide +kernel
theorem dX1_mostHarmfulSector_64 : decode cX1_mostHarmfulSector 64 = .ok (.ireturn, 1) := by decide +kernel
theorem dX1_moreHarmful_0 : decode cX1_moreHarmful 0 = .ok (.aload_n 0, 1) := by decide +kernel
theorem dX1_moreHarmful_1 : decode cX1_moreHarmful 1 = .ok (.iload_n 1, 1) := by decide +kernel
theorem dX1_moreHarmful_2 : decode cX1_moreHarmful 2 = .ok (.invokevirtual 150, 3) := by decide +kernel
theorem dX1_moreHarmful_5 : decode cX1_moreHarmful 5 = .ok (.istore_n 3, 1) := by decide +kernel
theorem dX1_moreHarmful_6 : decode cX1_moreHarmful 6 = .ok (.aload_n 0, 1) := by decide +kernel
theorem dX1_moreHarmful_7 : decode cX1_moreHarmful 7 = .ok (.iload_n 2, 1) := by decide +kernel
theorem dX1_moreHarmful_8 : decode cX1_moreHarmful 8 = .ok (.invokevirtual 150, 3) := by decide +kernel
theorem dX1_moreHarmful_11 : decode cX1_moreHarmful 11 = .ok (.istore 4, 2) := by decide +kernel
theorem dX1_moreHarmful_13 : decode cX1_moreHarmful 13 = .ok (.iload_n 3, 1) := by decide +kernel
theorem dX1_moreHarmful_14 : decode cX1_moreHarmful 14 = .ok (.iload 4, 2) := by decide +kernel
theorem dX1_moreHarmful_16 : decode cX1_moreHarmful 16 = .ok (.if_icmp .ne 9, 3) := by decide +kernel
theorem dX1_moreHarmful_19 : decode cX1_moreHarmful 19 = .ok (.iload_n 1, 1) := by decide +kernel
theorem dX1_moreHarmful_20 : decode cX1_moreHarmful 20 = .ok (.iload_n 2, 1) := by decide +kernel
theorem dX1_moreHarmful_21 : decode cX1_moreHarmful 21 = .ok (.invokestatic 125, 3) := by decide +kernel
theorem dX1_moreHarmful_24 : decode cX1_moreHarmful 24 = .ok (.ireturn, 1) := by decide +kernel
theorem dX1_moreHarmful_25 : decode cX1_moreHarmful 25 = .ok (.iload_n 3, 1) := by decide +kernel
theorem dX1_moreHarmful_26 : decode cX1_moreHarmful 26 = .ok (.iload 4, 2) := by decide +kernel
theorem dX1_moreHarmful_28 : decode cX1_moreHarmful 28 = .ok (.if_icmp .ge 7, 3) := by decide +kernel
theorem dX1_moreHarmful_31 : decode cX1_moreHarmful 31 = .ok (.iload_n 1, 1) := by decide +kernel
theorem dX1_moreHarmful_32 : decode cX1_moreHarmful 32 = .ok (.goto 4, 3) := by decide +kernel
theorem dX1_moreHarmful_35 : decode cX1_moreHarmful 35 = .ok (.iload_n 2, 1) := by decide +kernel
theorem dX1_moreHarmful_36 : decode cX1_moreHarmful 36 = .ok (.ireturn, 1) := by decide +kernel
theorem dX2_init_0 : decode cX2_init 0 = .ok (.aload_n 0, 1) := by decide +kernel
theorem dX2_init_1 : decode cX2_init 1 = .ok (.invokespecial 3, 3) := by decide +kernel
theorem dX2_init_4 : decode cX2_init 4 = .ok (.aload_n 0, 1) := by decide +kernel
theorem dX2_init_5 : decode cX2_init 5 = .ok (.iconst 5, 1) := by decide +kernel
theorem dX2_init_6 : decode cX2_init 6 = .ok (.anewarray 9, 3) := by decide +kernel
theorem dX2_init_9 : decode cX2_init 9 = .ok (.putfield 11, 3) := by decide +kernel
theorem dX2_init_12 : decode cX2_init 12 = .ok (.iconst 0, 1) := by decide +kernel
theorem dX2_init_13 : decode cX2_init 13 = .ok (.istore_n 1, 1) := by decide +kernel
theorem dX2_init_14 : decode cX2_init 14 = .ok (.iload_n 1, 1) := by decide +kernel
theorem dX2_init_15 : decode cX2_init 15 = .ok (.iconst 5, 1) := by decide +kernel
theorem dX2_init_16 : decode cX2_init 16 = .ok (.if_icmp .ge 22, 3) := by decide +kernel
theorem dX2_init_19 : decode cX2_init 19 = .ok (.aload_n 0, 1) := by decide +kernel
theorem dX2_init_20 : decode cX2_init 20 = .ok (.getfield 11, 3) := by decide +kernel
theorem dX2_init_23 : decode cX2_init 23 = .ok (.iload_n 1, 1) := by decide +kernel
theorem dX2_init_24 : decode cX2_init 24 = .ok (.new 9, 3) := by decide +kernel
theorem dX2_init_27 : decode cX2_init 27 = .ok (.dup, 1) := by decide +kernel
theorem dX2_init_28 : decode cX2_init 28 = .ok (.invokespecial 17, 3) := by decide +kernel
theorem dX2_init_31 : decode cX2_init 31 = .ok (.aastore, 1) := by decide +kernel
theorem dX2_init_32 : decode cX2_init 32 = .ok (.iinc 1 1, 3) := by decide +kernel
theorem dX2_init_35 : decode cX2_init 35 = .ok (.goto (-21), 3) := by decide +kernel
theorem dX2_init_38 : decode cX2_init 38 = .ok (.return_, 1) := by decide +kernel
theorem dX2_slotBehindHeld_0 : decode cX2_slotBehindHeld 0 = .ok (.aload_n 0, 1) := by decide +kernel
theorem dX2_slotBehindHeld_1 : decode cX2_slotBehindHeld 1 = .ok (.getfield 11, 3) := by decide +kernel
theorem dX2_slotBehindHeld_4 : decode cX2_slotBehindHeld 4 = .ok (.aload_n 0, 1) := by decide +kernel
theorem dX2_slotBehindHeld_5 : decode cX2_slotBehindHeld 5 = .ok (.getfield 18, 3) := by decide +kernel
theorem dX2_slotBehindHeld_8 : decode cX2_slotBehindHeld 8 = .ok (.aload_n 0, 1) := by decide +kernel
theorem dX2_slotBehindHeld_9 : decode cX2_slotBehindHeld 9 = .ok (.getfield 22, 3) := by decide +kernel
theorem dX2_slotBehindHeld_12 : decode cX2_slotBehindHeld 12 = .ok (.iadd, 1) := by decide +kernel
theorem dX2_slotBehindHeld_13 : decode cX2_slotBehindHeld 13 = .ok (.iconst 5, 1) := by decide +kernel
theorem dX2_slotBehindHeld_14 : decode cX2_slotBehindHeld 14 = .ok (.irem, 1) := by decide +kernel
theorem dX2_slotBehindHeld_15 : decode cX2_slotBehindHeld 15 = .ok (.aaload, 1) := by decide +kernel
theorem dX2_slotBehindHeld_16 : decode cX2_slotBehindHeld 16 = .ok (.areturn, 1) := by decide +kernel
theorem dX2_sketch_0 : decode cX2_sketch 0 = .ok (.aload_n 0, 1) := by decide +kernel
theorem dX2_sketch_1 : decode cX2_sketch 1 = .ok (.invokevirtual 25, 3) := by decide +kernel
theorem dX2_sketch_4 : decode cX2_sketch 4 = .ok (.aload_n 1, 1) := by decide +kernel
theorem dX2_sketch_5 : decode cX2_sketch 5 = .ok (.invokevirtual 29, 3) := by decide +kernel
theorem dX2_sketch_8 : decode cX2_sketch 8 = .ok (.return_, 1) := by decide +kernel
theorem dX2_recordSketch_0 : decode cX2_recordSketch 0 = .ok (.aload_n 0, 1) := by decide +kernel
theorem dX2_recordSketch_1 : decode cX2_recordSketch 1 = .ok (.getfield 22, 3) := by decide +kernel
theorem dX2_recordSketch_4 : decode cX2_recordSketch 4 = .ok (.iconst 4, 1) := by decide +kernel
theorem dX2_recordSketch_5 : decode cX2_recordSketch 5 = .ok (.if_icmp .ge 16, 3) := by decide +kernel
theorem dX2_recordSketch_8 : decode cX2_recordSketch 8 = .ok (.aload_n 0, 1) := by decide +kernel
theorem dX2_recordSketch_9 : decode cX2_recordSketch 9 = .ok (.dup, 1) := by decide +kernel
theorem dX2_recordSketch_10 : decode cX2_recordSketch 10 = .ok (.getfield 22, 3) := by decide +kernel
theorem dX2_recordSketch_13 : decode cX2_recordSketch 13 = .ok (.iconst 1, 1) := by decide +kernel
theorem dX2_recordSketch_14 : decode cX2_recordSketch 14 = .ok (.iadd, 1) := by decide +kernel
theorem dX2_recordSketch_15 : decode cX2_recordSketch 15 = .ok (.putfield 22, 3) := by decide +kernel
theorem dX2_recordSketch_18 : decode cX2_recordSketch 18 = .ok (.goto 15, 3) := by decide +kernel
theorem dX2_recordSketch_21 : decode cX2_recordSketch 21 = .ok (.aload_n 0, 1) := by decide +kernel
theorem dX2_recordSketch_22 : decode cX2_recordSketch 22 = .ok (.aload_n 0, 1) := by decide +kernel
theorem dX2_recordSketch_23 : decode cX2_recordSketch 23 = .ok (.getfield 18, 3) := by decide +kernel
theorem dX2_recordSketch_26 : decode cX2_recordSketch 26 = .ok (.iconst 1, 1) := by decide +kernel
theorem dX2_recordSketch_27 : decode cX2_recordSketch 27 = .ok (.iadd, 1) := by decide +kernel
theorem dX2_recordSketch_28 : decode cX2_recordSketch 28 = .ok (.iconst 5, 1) := by decide +kernel
theorem dX2_recordSketch_29 : decode cX2_recordSketch 29 = .ok (.irem, 1) := by decide +kernel
theorem dX2_recordSketch_30 : decode cX2_recordSketch 30 = .ok (.putfield 18, 3) := by decide +kernel
theorem dX2_recordSketch_33 : decode cX2_recordSketch 33 = .ok (.return_, 1) := by decide +kernel
theorem dX2_takeBack_0 : decode cX2_takeBack 0 = .ok (.aload_n 0, 1) := by decide +kernel
theorem dX2_takeBack_1 : decode cX2_takeBack 1 = .ok (.getfield 22, 3) := by decide +kernel
theorem dX2_takeBack_4 : decode cX2_takeBack 4 = .ok (.ifCond .ne 5, 3) := by decide +kernel
theorem dX2_takeBack_7 : decode cX2_takeBack 7 = .ok (.iconst 0, 1) := by decide +kernel
theorem dX2_takeBack_8 : decode cX2_takeBack 8 = .ok (.ireturn, 1) := by decide +kernel
theorem dX2_takeBack_9 : decode cX2_takeBack 9 = .ok (.aload_n 0, 1) := by decide +kernel
theorem dX2_takeBack_10 : decode cX2_takeBack 10 = .ok (.dup, 1) := by decide +kernel
theorem dX2_takeBack_11 : decode cX2_takeBack 11 = .ok (.getfield 22, 3) := by decide +kernel
theorem dX2_takeBack_14 : decode cX2_takeBack 14 = .ok (.iconst 1, 1) := by decide +kernel
theorem dX2_takeBack_15 : decode cX2_takeBack 15 = .ok (.isub, 1) := by decide +kernel
theorem dX2_takeBack_16 : decode cX2_takeBack 16 = .ok (.putfield 22, 3) := by decide +kernel
theorem dX2_takeBack_19 : decode cX2_takeBack 19 = .ok (.aload_n 1, 1) := by decide +kernel
theorem dX2_takeBack_20 : decode cX2_takeBack 20 = .ok (.aload_n 0, 1) := by decide +kernel
theorem dX2_takeBack_21 : decode cX2_takeBack 21 = .ok (.invokevirtual 25, 3) := by decide +kernel
theorem dX2_takeBack_24 : decode cX2_takeBack 24 = .ok (.invokevirtual 29, 3) := by decide +kernel
theorem dX2_takeBack_27 : decode cX2_takeBack 27 = .ok (.iconst 1, 1) := by decide +kernel
theorem dX2_takeBack_28 : decode cX2_takeBack 28 = .ok (.ireturn, 1) := by decide +kernel
theorem dX3_init_0 : decode cX3_init 0 = .ok (.aload_n 0, 1) := by decide +kernel
theorem dX3_init_1 : decode cX3_init 1 = .ok (.invokespecial 3, 3) := by decide +kernel
theorem dX3_init_4 : decode cX3_init 4 = .ok (.aload_n 0, 1) := by decide +kernel
theorem dX3_init_5 : decode cX3_init 5 = .ok (.bipush 20, 2) := by decide +kernel
theorem dX3_init_7 : decode cX3_init 7 = .ok (.anewarray 9, 3) := by decide +kernel
theorem dX3_init_10 : decode cX3_init 10 = .ok (.putfield 11, 3) := by decide +kernel
theorem dX3_init_13 : decode cX3_init 13 = .ok (.return_, 1) := by decide +kernel
theorem dX3_startAt_0 : decode cX3_startAt 0 = .ok (.aload_n 0, 1) := by decide +kernel
theorem dX3_startAt_1 : decode cX3_startAt 1 = .ok (.iconst 0, 1) := by decide +kernel
theorem dX3_startAt_2 : decode cX3_startAt 2 = .ok (.putfield 17, 3) := by decide +kernel
theorem dX3_startAt_5 : decode cX3_startAt 5 = .ok (.aload_n 0, 1) := by decide +kernel
theorem dX3_startAt_6 : decode cX3_startAt 6 = .ok (.iload_n 1, 1) := by decide +kernel
theorem dX3_startAt_7 : decode cX3_startAt 7 = .ok (.putfield 21, 3) := by decide +kernel
theorem dX3_startAt_10 : decode cX3_startAt 10 = .ok (.aload_n 0, 1) := by decide +kernel
theorem dX3_startAt_11 : decode cX3_startAt 11 = .ok (.iload_n 1, 1) := by decide +kernel
theorem dX3_startAt_12 : decode cX3_startAt 12 = .ok (.iload_n 2, 1) := by decide +kernel
theorem dX3_startAt_13 : decode cX3_startAt 13 = .ok (.iadd, 1) := by decide +kernel
theorem dX3_startAt_14 : decode cX3_startAt 14 = .ok (.putfield 24, 3) := by decide +kernel
theorem dX3_startAt_17 : decode cX3_startAt 17 = .ok (.aload_n 0, 1) := by decide +kernel
theorem dX3_startAt_18 : decode cX3_startAt 18 = .ok (.iload_n 2, 1) := by decide +kernel
theorem dX3_startAt_19 : decode cX3_startAt 19 = .ok (.putfield 27, 3) := by decide +kernel
theorem dX3_startAt_22 : decode cX3_startAt 22 = .ok (.aload_n 0, 1) := by decide +kernel
theorem dX3_startAt_23 : decode cX3_startAt 23 = .ok (.iload_n 3, 1) := by decide +kernel
theorem dX3_startAt_24 : decode cX3_startAt 24 = .ok (.putfield 30, 3) := by decide +kernel
theorem dX3_startAt_27 : decode cX3_startAt 27 = .ok (.aload_n 0, 1) := by decide +kernel
theorem dX3_startAt_28 : decode cX3_startAt 28 = .ok (.iconst 0, 1) := by decide +kernel
theorem dX3_startAt_29 : decode cX3_startAt 29 = .ok (.putfield 33, 3) := by decide +kernel
theorem dX3_startAt_32 : decode cX3_startAt 32 = .ok (.iconst 0, 1) := by decide +kernel
theorem dX3_startAt_33 : decode cX3_startAt 33 = .ok (.istore 4, 2) := by decide +kernel
theorem dX3_startAt_35 : decode cX3_startAt 35 = .ok (.iload 4, 2) := by decide +kernel
theorem dX3_startAt_37 : decode cX3_startAt 37 = .ok (.bipush 20, 2) := by decide +kernel
theorem dX3_startAt_39 : decode cX3_startAt 39 = .ok (.if_icmp .ge 17, 3) := by decide +kernel
theorem dX3_startAt_42 : decode cX3_startAt 42 = .ok (.aload_n 0, 1) := by decide +kernel
theorem dX3_startAt_43 : decode cX3_startAt 43 = .ok (.getfield 11, 3) := by decide +kernel
theorem dX3_startAt_46 : decode cX3_startAt 46 = .ok (.iload 4, 2) := by decide +kernel
theorem dX3_startAt_48 : decode cX3_startAt 48 = .ok (.aconst_null, 1) := by decide +kernel
theorem dX3_startAt_49 : decode cX3_startAt 49 = .ok (.aastore, 1) := by decide +kernel
theorem dX3_startAt_50 : decode cX3_startAt 50 = .ok (.iinc 4 1, 3) := by decide +kernel
theorem dX3_startAt_53 : decode cX3_startAt 53 = .ok (.goto (-18), 3) := by decide +kernel
theorem dX3_startAt_56 : decode cX3_startAt 56 = .ok (.return_, 1) := by decide +kernel
theorem dX3_copyTable_0 : decode cX3_copyTable 0 = .ok (.iconst 0, 1) := by decide +kernel
theorem dX3_copyTable_1 : decode cX3_copyTable 1 = .ok (.istore_n 2, 1) := by decide +kernel
theorem dX3_copyTable_2 : decode cX3_copyTable 2 = .ok (.iload_n 2, 1) := by decide +kernel
theorem dX3_copyTable_3 : decode cX3_copyTable 3 = .ok (.bipush 20, 2) := by decide +kernel
theorem dX3_copyTable_5 : decode cX3_copyTable 5 = .ok (.if_icmp .ge 21, 3) := by decide +kernel
theorem dX3_copyTable_8 : decode cX3_copyTable 8 = .ok (.aload_n 0, 1) := by decide +kernel
theorem dX3_copyTable_9 : decode cX3_copyTable 9 = .ok (.getfield 11, 3) := by decide +kernel
theorem dX3_copyTable_12 : decode cX3_copyTable 12 = .ok (.iload_n 2, 1) := by decide +kernel
theorem dX3_copyTable_13 : decode cX3_copyTable 13 = .ok (.aload_n 1, 1) := by decide +kernel
theorem dX3_copyTable_14 : decode cX3_copyTable 14 = .ok (.getfield 11, 3) := by decide +kernel
theorem dX3_copyTable_17 : decode cX3_copyTable 17 = .ok (.iload_n 2, 1) := by decide +kernel
theorem dX3_copyTable_18 : decode cX3_copyTable 18 = .ok (.aaload, 1) := by decide +kernel
theorem dX3_copyTable_19 : decode cX3_copyTable 19 = .ok (.aastore, 1) := by decide +kernel
theorem dX3_copyTable_20 : decode cX3_copyTable 20 = .ok (.iinc 2 1, 3) := by decide +kernel
theorem dX3_copyTable_23 : decode cX3_copyTable 23 = .ok (.goto (-21), 3) := by decide +kernel
theorem dX3_copyTable_26 : decode cX3_copyTable 26 = .ok (.return_, 1) := by decide +kernel
theorem dX3_copyAll_0 : decode cX3_copyAll 0 = .ok (.aload_n 0, 1) := by decide +kernel
theorem dX3_copyAll_1 : decode cX3_copyAll 1 = .ok (.aload_n 1, 1) := by decide +kernel
theorem dX3_copyAll_2 : decode cX3_copyAll 2 = .ok (.getfield 17, 3) := by decide +kernel
theorem dX3_copyAll_5 : decode cX3_copyAll 5 = .ok (.putfield 17, 3) := by decide +kernel
theorem dX3_copyAll_8 : decode cX3_copyAll 8 = .ok (.aload_n 0, 1) := by decide +kernel
theorem dX3_copyAll_9 : decode cX3_copyAll 9 = .ok (.aload_n 1, 1) := by decide +kernel
theorem dX3_copyAll_10 : decode cX3_copyAll 10 = .ok (.getfield 21, 3) := by decide +kernel
theorem dX3_copyAll_13 : decode cX3_copyAll 13 = .ok (.putfield 21, 3) := by decide +kernel
theorem dX3_copyAll_16 : decode cX3_copyAll 16 = .ok (.aload_n 0, 1) := by decide +kernel
theorem dX3_copyAll_17 : decode cX3_copyAll 17 = .ok (.aload_n 1, 1) := by decide +kernel
theorem dX3_copyAll_18 : decode cX3_copyAll 18 = .ok (.getfield 24, 3) := by decide +kernel
theorem dX3_copyAll_21 : decode cX3_copyAll 21 = .ok (.putfield 24, 3) := by decide +kernel
theorem dX3_copyAll_24 : decode cX3_copyAll 24 = .ok (.aload_n 0, 1) := by decide +kernel
theorem dX3_copyAll_25 : decode cX3_copyAll 25 = .ok (.aload_n 1, 1) := by decide +kernel
theorem dX3_copyAll_26 : decode cX3_copyAll 26 = .ok (.getfield 27, 3) := by decide +kernel
theorem dX3_copyAll_29 : decode cX3_copyAll 29 = .ok (.putfield 27, 3) := by decide +kernel
theorem dX3_copyAll_32 : decode cX3_copyAll 32 = .ok (.aload_n 0, 1) := by decide +kernel
theorem dX3_copyAll_33 : decode cX3_copyAll 33 = .ok (.aload_n 1, 1) := by decide +kernel
theorem dX3_copyAll_34 : decode cX3_copyAll 34 = .ok (.getfield 30, 3) := by decide +kernel
theorem dX3_copyAll_37 : decode cX3_copyAll 37 = .ok (.putfield 30, 3) := by decide +kernel
theorem dX3_copyAll_40 : decode cX3_copyAll 40 = .ok (.aload_n 0, 1) := by decide +kernel
theorem dX3_copyAll_41 : decode cX3_copyAll 41 = .ok (.aload_n 1, 1) := by decide +kernel
theorem dX3_copyAll_42 : decode cX3_copyAll 42 = .ok (.getfield 33, 3) := by decide +kernel
theorem dX3_copyAll_45 : decode cX3_copyAll 45 = .ok (.putfield 33, 3) := by decide +kernel
theorem dX3_copyAll_48 : decode cX3_copyAll 48 = .ok (.aload_n 0, 1) := by decide +kernel
theorem dX3_copyAll_49 : decode cX3_copyAll 49 = .ok (.aload_n 1, 1) := by decide +kernel
theorem dX3_copyAll_50 : decode cX3_copyAll 50 = .ok (.invokevirtual 36, 3) := by decide +kernel
theorem dX3_copyAll_53 : decode cX3_copyAll 53 = .ok (.return_, 1) := by decide +kernel
theorem dX3_fileOf_0 : decode cX3_fileOf 0 = .ok (.iload_n 1, 1) := by decide +kernel
theorem dX3_fileOf_1 : decode cX3_fileOf 1 = .ok (.invokestatic 40, 3) := by decide +kernel
theorem dX3_fileOf_4 : decode cX3_fileOf 4 = .ok (.ifCond .eq 12, 3) := by decide +kernel
theorem dX3_fileOf_7 : decode cX3_fileOf 7 = .ok (.aload_n 0, 1) := by decide +kernel
theorem dX3_fileOf_8 : decode cX3_fileOf 8 = .ok (.getfield 11, 3) := by decide +kernel
theorem dX3_fileOf_11 : decode cX3_fileOf 11 = .ok (.iload_n 1, 1) := by decide +kernel
theorem dX3_fileOf_12 : decode cX3_fileOf 12 = .ok (.aaload, 1) := by decide +kernel
theorem dX3_fileOf_13 : decode cX3_fileOf 13 = .ok (.goto 4, 3) := by decide +kernel
theorem dX3_fileOf_16 : decode cX3_fileOf 16 = .ok (.aconst_null, 1) := by decide +kernel
theorem dX3_fileOf_17 : decode cX3_fileOf 17 = .ok (.areturn, 1) := by decide +kernel
theorem dX3_putFile_0 : decode cX3_putFile 0 = .ok (.iload_n 1, 1) := by decide +kernel
theorem dX3_putFile_1 : decode cX3_putFile 1 = .ok (.invokestatic 40, 3) := by decide +kernel
theorem dX3_putFile_4 : decode cX3_putFile 4 = .ok (.ifCond .eq 10, 3) := by decide +kernel
theorem dX3_putFile_7 : decode cX3_putFile 7 = .ok (.aload_n 0, 1) := by decide +kernel
theorem dX3_putFile_8 : decode cX3_putFile 8 = .ok (.getfield 11, 3) := by decide +kernel
theorem dX3_putFile_11 : decode cX3_putFile 11 = .ok (.iload_n 1, 1) := by decide +kernel
theorem dX3_putFile_12 : decode cX3_putFile 12 = .ok (.aload_n 2, 1) := by decide +kernel
theorem dX3_putFile_13 : decode cX3_putFile 13 = .ok (.aastore, 1) := by decide +kernel
theorem dX3_putFile_14 : decode cX3_putFile 14 = .ok (.return_, 1) := by decide +kernel
theorem dX3_countEntries_0 : decode cX3_countEntries 0 = .ok (.iconst 0, 1) := by decide +kernel
theorem dX3_countEntries_1 : decode cX3_countEntries 1 = .ok (.istore_n 1, 1) := by decide +kernel
theorem dX3_countEntries_2 : decode cX3_countEntries 2 = .ok (.iconst 0, 1) := by decide +kernel
theorem dX3_countEntries_3 : decode cX3_countEntries 3 = .ok (.istore_n 2, 1) := by decide +kernel
theorem dX3_countEntries_4 : decode cX3_countEntries 4 = .ok (.iload_n 2, 1) := by decide +kernel
theorem dX3_countEntries_5 : decode cX3_countEntries 5 = .ok (.bipush 20, 2) := by decide +kernel
theorem dX3_countEntries_7 : decode cX3_countEntries 7 = .ok (.if_icmp .ge 21, 3) := by decide +kernel
theorem dX3_countEntries_10 : decode cX3_countEntries 10 = .ok (.aload_n 0, 1) := by decide +kernel
theorem dX3_countEntries_11 : decode cX3_countEntries 11 = .ok (.getfield 11, 3) := by decide +kernel
theorem dX3_countEntries_14 : decode cX3_countEntries 14 = .ok (.iload_n 2, 1) := by decide +kernel
theorem dX3_countEntries_15 : decode cX3_countEntries 15 = .ok (.aaload, 1) := by decide +kernel
theorem dX3_countEntries_16 : decode cX3_countEntries 16 = .ok (.ifnull 6, 3) := by decide +kernel
theorem dX3_countEntries_19 : decode cX3_countEntries 19 = .ok (.iinc 1 1, 3) := by decide +kernel
theorem dX3_countEntries_22 : decode cX3_countEntries 22 = .ok (.iinc 2 1, 3) := by decide +kernel
theorem dX3_countEntries_25 : decode cX3_countEntries 25 = .ok (.goto (-21), 3) := by decide +kernel
theorem dX3_countEntries_28 : decode cX3_countEntries 28 = .ok (.iload_n 1, 1) := by decide +kernel
theorem dX3_countEntries_29 : decode cX3_countEntries 29 = .ok (.ireturn, 1) := by decide +kernel
theorem dX3_hasTaken_0 : decode cX3_hasTaken 0 = .ok (.iload_n 1, 1) := by decide +kernel
theorem dX3_hasTaken_1 : decode cX3_hasTaken 1 = .ok (.aload_n 0, 1) := by decide +kernel
theorem dX3_hasTaken_2 : decode cX3_hasTaken 2 = .ok (.getfield 21, 3) := by decide +kernel
theorem dX3_hasTaken_5 : decode cX3_hasTaken 5 = .ok (.if_icmp .lt 15, 3) := by decide +kernel
theorem dX3_hasTaken_8 : decode cX3_hasTaken 8 = .ok (.iload_n 1, 1) := by decide +kernel
theorem dX3_hasTaken_9 : decode cX3_hasTaken 9 = .ok (.aload_n 0, 1) := by decide +kernel
theorem dX3_hasTaken_10 : decode cX3_hasTaken 10 = .ok (.getfield 24, 3) := by decide +kernel
theorem dX3_hasTaken_13 : decode cX3_hasTaken 13 = .ok (.if_icmp .ge 7, 3) := by decide +kernel
theorem dX3_hasTaken_16 : decode cX3_hasTaken 16 = .ok (.iconst 1, 1) := by decide +kernel
theorem dX3_hasTaken_17 : decode cX3_hasTaken 17 = .ok (.goto 4, 3) := by decide +kernel
theorem dX3_hasTaken_20 : decode cX3_hasTaken 20 = .ok (.iconst 0, 1) := by decide +kernel
theorem dX3_hasTaken_21 : decode cX3_hasTaken 21 = .ok (.ireturn, 1) := by decide +kernel
theorem dX3_useOf_0 : decode cX3_useOf 0 = .ok (.iload_n 1, 1) := by decide +kernel
theorem dX3_useOf_1 : decode cX3_useOf 1 = .ok (.aload_n 0, 1) := by decide +kernel
theorem dX3_useOf_2 : decode cX3_useOf 2 = .ok (.getfield 21, 3) := by decide +kernel
theorem dX3_useOf_5 : decode cX3_useOf 5 = .ok (.aload_n 0, 1) := by decide +kernel
theorem dX3_useOf_6 : decode cX3_useOf 6 = .ok (.getfield 27, 3) := by decide +kernel
theorem dX3_useOf_9 : decode cX3_useOf 9 = .ok (.iadd, 1) := by decide +kernel
theorem dX3_useOf_10 : decode cX3_useOf 10 = .ok (.if_icmp .ge 5, 3) := by decide +kernel
theorem dX3_useOf_13 : decode cX3_useOf 13 = .ok (.iconst 1, 1) := by decide +kernel
theorem dX3_useOf_14 : decode cX3_useOf 14 = .ok (.ireturn, 1) := by decide +kernel
theorem dX3_useOf_15 : decode cX3_useOf 15 = .ok (.aload_n 0, 1) := by decide +kernel
theorem dX3_useOf_16 : decode cX3_useOf 16 = .ok (.getfield 17, 3) := by decide +kernel
theorem dX3_useOf_19 : decode cX3_useOf 19 = .ok (.iconst 1, 1) := by decide +kernel
theorem dX3_useOf_20 : decode cX3_useOf 20 = .ok (.if_icmp .ne 18, 3) := by decide +kernel
theorem dX3_useOf_23 : decode cX3_useOf 23 = .ok (.iload_n 1, 1) := by decide +kernel
theorem dX3_useOf_24 : decode cX3_useOf 24 = .ok (.aload_n 0, 1) := by decide +kernel
theorem dX3_useOf_25 : decode cX3_useOf 25 = .ok (.getfield 24, 3) := by decide +kernel
theorem dX3_useOf_28 : decode cX3_useOf 28 = .ok (.aload_n 0, 1) := by decide +kernel
theorem dX3_useOf_29 : decode cX3_useOf 29 = .ok (.getfield 30, 3) := by decide +kernel
theorem dX3_useOf_32 : decode cX3_useOf 32 = .ok (.isub, 1) := by decide +kernel
theorem dX3_useOf_33 : decode cX3_useOf 33 = .ok (.if_icmp .lt 5, 3) := by decide +kernel
theorem dX3_useOf_36 : decode cX3_useOf 36 = .ok (.iconst 2, 1) := by decide +kernel
theorem dX3_useOf_37 : decode cX3_useOf 37 = .ok (.ireturn, 1) := by decide +kernel
theorem dX3_useOf_38 : decode cX3_useOf 38 = .ok (.iconst 3, 1) := by decide +kernel
theorem dX3_useOf_39 : decode cX3_useOf 39 = .ok (.ireturn, 1) := by decide +kernel
theorem dX4_init_0 : decode cX4_init 0 = .ok (.aload_n 0, 1) := by decide +kernel
theorem dX4_init_1 : decode cX4_init 1 = .ok (.invokespecial 1, 3) := by decide +kernel
theorem dX4_init_4 : decode cX4_init 4 = .ok (.aload_n 0, 1) := by decide +kernel
theorem dX4_init_5 : decode cX4_init 5 = .ok (.iload_n 1, 1) := by decide +kernel
theorem dX4_init_6 : decode cX4_init 6 = .ok (.putfield 7, 3) := by decide +kernel
theorem dX4_init_9 : decode cX4_init 9 = .ok (.aload_n 0, 1) := by decide +kernel
theorem dX4_init_10 : decode cX4_init 10 = .ok (.iload_n 2, 1) := by decide +kernel
theorem dX4_init_11 : decode cX4_init 11 = .ok (.putfield 13, 3) := by decide +kernel
theorem dX4_init_14 : decode cX4_init 14 = .ok (.aload_n 0, 1) := by decide +kernel
theorem dX4_init_15 : decode cX4_init 15 = .ok (.iload_n 3, 1) := by decide +kernel
theorem dX4_init_16 : decode cX4_init 16 = .ok (.putfield 16, 3) := by decide +kernel
theorem dX4_init_19 : decode cX4_init 19 = .ok (.return_, 1) := by decide +kernel
theorem dX5_init_0 : decode cX5_init 0 = .ok (.aload_n 0, 1) := by decide +kernel
theorem dX5_init_1 : decode cX5_init 1 = .ok (.invokespecial 3, 3) := by decide +kernel
theorem dX5_init_4 : decode cX5_init 4 = .ok (.aload_n 0, 1) := by decide +kernel
theorem dX5_init_5 : decode cX5_init 5 = .ok (.new 9, 3) := by decide +kernel
theorem dX5_init_8 : decode cX5_init 8 = .ok (.dup, 1) := by decide +kernel
theorem dX5_init_9 : decode cX5_init 9 = .ok (.invokespecial 11, 3) := by decide +kernel
theorem dX5_init_12 : decode cX5_init 12 = .ok (.putfield 12, 3) := by decide +kernel
theorem dX5_init_15 : decode cX5_init 15 = .ok (.aload_n 0, 1) := by decide +kernel
theorem dX5_init_16 : decode cX5_init 16 = .ok (.new 16, 3) := by decide +kernel
theorem dX5_init_19 : decode cX5_init 19 = .ok (.dup, 1) := by decide +kernel
theorem dX5_init_20 : decode cX5_init 20 = .ok (.invokespecial 18, 3) := by decide +kernel
theorem dX5_init_23 : decode cX5_init 23 = .ok (.putfield 19, 3) := by decide +kernel
theorem dX5_init_26 : decode cX5_init 26 = .ok (.aload_n 0, 1) := by decide +kernel
theorem dX5_init_27 : decode cX5_init 27 = .ok (.new 23, 3) := by decide +kernel
theorem dX5_init_30 : decode cX5_init 30 = .ok (.dup, 1) := by decide +kernel
theorem dX5_init_31 : decode cX5_init 31 = .ok (.invokespecial 25, 3) := by decide +kernel
theorem dX5_init_34 : decode cX5_init 34 = .ok (.putfield 26, 3) := by decide +kernel
theorem dX5_init_37 : decode cX5_init 37 = .ok (.return_, 1) := by decide +kernel
theorem dX5_begin_0 : decode cX5_begin 0 = .ok (.aload_n 0, 1) := by decide +kernel
theorem dX5_begin_1 : decode cX5_begin 1 = .ok (.getfield 19, 3) := by decide +kernel
theorem dX5_begin_4 : decode cX5_begin 4 = .ok (.aload_n 0, 1) := by decide +kernel
theorem dX5_begin_5 : decode cX5_begin 5 = .ok (.getfield 12, 3) := by decide +kernel
theorem dX5_begin_8 : decode cX5_begin 8 = .ok (.invokevirtual 30, 3) := by decide +kernel
theorem dX5_begin_11 : decode cX5_begin 11 = .ok (.aload_n 0, 1) := by decide +kernel
theorem dX5_begin_12 : decode cX5_begin 12 = .ok (.aload_n 0, 1) := by decide +kernel
theorem dX5_begin_13 : decode cX5_begin 13 = .ok (.getfield 12, 3) := by decide +kernel
theorem dX5_begin_16 : decode cX5_begin 16 = .ok (.iload_n 1, 1) := by decide +kernel
theorem dX5_begin_17 : decode cX5_begin 17 = .ok (.invokevirtual 34, 3) := by decide +kernel
theorem dX5_begin_20 : decode cX5_begin 20 = .ok (.invokevirtual 38, 3) := by decide +kernel
theorem dX5_begin_23 : decode cX5_begin 23 = .ok (.ireturn, 1) := by decide +kernel
theorem dX5_write_0 : decode cX5_write 0 = .ok (.aload_n 0, 1) := by decide +kernel
theorem dX5_write_1 : decode cX5_write 1 = .ok (.getfield 19, 3) := by decide +kernel
theorem dX5_write_4 : decode cX5_write 4 = .ok (.aload_n 0, 1) := by decide +kernel
theorem dX5_write_5 : decode cX5_write 5 = .ok (.getfield 12, 3) := by decide +kernel
theorem dX5_write_8 : decode cX5_write 8 = .ok (.invokevirtual 30, 3) := by decide +kernel
theorem dX5_write_11 : decode cX5_write 11 = .ok (.aload_n 0, 1) := by decide +kernel
theorem dX5_write_12 : decode cX5_write 12 = .ok (.aload_n 0, 1) := by decide +kernel
theorem dX5_write_13 : decode cX5_write 13 = .ok (.getfield 12, 3) := by decide +kernel
theorem dX5_write_16 : decode cX5_write 16 = .ok (.iload_n 1, 1) := by decide +kernel
theorem dX5_write_17 : decode cX5_write 17 = .ok (.iload_n 2, 1) := by decide +kernel
theorem dX5_write_18 : decode cX5_write 18 = .ok (.invokevirtual 41, 3) := by decide +kernel
theorem dX5_write_21 : decode cX5_write 21 = .ok (.invokevirtual 38, 3) := by decide +kernel
theorem dX5_write_24 : decode cX5_write 24 = .ok (.ireturn, 1) := by decide +kernel
theorem dX5_remove_0 : decode cX5_remove 0 = .ok (.aload_n 0, 1) := by decide +kernel
theorem dX5_remove_1 : decode cX5_remove 1 = .ok (.getfield 19, 3) := by decide +kernel
theorem dX5_remove_4 : decode cX5_remove 4 = .ok (.aload_n 0, 1) := by decide +kernel
theorem dX5_remove_5 : decode cX5_remove 5 = .ok (.getfield 12, 3) := by decide +kernel
theorem dX5_remove_8 : decode cX5_remove 8 = .ok (.invokevirtual 30, 3) := by decide +kernel
theorem dX5_remove_11 : decode cX5_remove 11 = .ok (.aload_n 0, 1) := by decide +kernel
theorem dX5_remove_12 : decode cX5_remove 12 = .ok (.aload_n 0, 1) := by decide +kernel
theorem dX5_remove_13 : decode cX5_remove 13 = .ok (.getfield 12, 3) := by decide +kernel
theorem dX5_remove_16 : decode cX5_remove 16 = .ok (.iload_n 1, 1) := by decide +kernel
theorem dX5_remove_17 : decode cX5_remove 17 = .ok (.invokevirtual 45, 3) := by decide +kernel
theorem dX5_remove_20 : decode cX5_remove 20 = .ok (.invokevirtual 38, 3) := by decide +kernel
theorem dX5_remove_23 : decode cX5_remove 23 = .ok (.ireturn, 1) := by decide +kernel
theorem dX5_keep_0 : decode cX5_keep 0 = .ok (.aload_n 0, 1) := by decide +kernel
theorem dX5_keep_1 : decode cX5_keep 1 = .ok (.getfield 19, 3) := by decide +kernel
theorem dX5_keep_4 : decode cX5_keep 4 = .ok (.aload_n 0, 1) := by decide +kernel
theorem dX5_keep_5 : decode cX5_keep 5 = .ok (.getfield 12, 3) := by decide +kernel
theorem dX5_keep_8 : decode cX5_keep 8 = .ok (.invokevirtual 30, 3) := by decide +kernel
theorem dX5_keep_11 : decode cX5_keep 11 = .ok (.aload_n 0, 1) := by decide +kernel
theorem dX5_keep_12 : decode cX5_keep 12 = .ok (.aload_n 0, 1) := by decide +kernel
theorem dX5_keep_13 : decode cX5_keep 13 = .ok (.getfield 12, 3) := by decide +kernel
theorem dX5_keep_16 : decode cX5_keep 16 = .ok (.iload_n 1, 1) := by decide +kernel
theorem dX5_keep_17 : decode cX5_keep 17 = .ok (.iload_n 2, 1) := by decide +kernel
theorem dX5_keep_18 : decode cX5_keep 18 = .ok (.invokevirtual 48, 3) := by decide +kernel
theorem dX5_keep_21 : decode cX5_keep 21 = .ok (.invokevirtual 38, 3) := by decide +kernel
theorem dX5_keep_24 : decode cX5_keep 24 = .ok (.ireturn, 1) := by decide +kernel
theorem dX5_close_0 : decode cX5_close 0 = .ok (.aload_n 0, 1) := by decide +kernel
theorem dX5_close_1 : decode cX5_close 1 = .ok (.getfield 19, 3) := by decide +kernel
theorem dX5_close_4 : decode cX5_close 4 = .ok (.aload_n 0, 1) := by decide +kernel
theorem dX5_close_5 : decode cX5_close 5 = .ok (.getfield 12, 3) := by decide +kernel
theorem dX5_close_8 : decode cX5_close 8 = .ok (.invokevirtual 30, 3) := by decide +kernel
theorem dX5_close_11 : decode cX5_close 11 = .ok (.aload_n 0, 1) := by decide +kernel
theorem dX5_close_12 : decode cX5_close 12 = .ok (.aload_n 0, 1) := by decide +kernel
theorem dX5_close_13 : decode cX5_close 13 = .ok (.getfield 12, 3) := by decide +kernel
theorem dX5_close_16 : decode cX5_close 16 = .ok (.invokevirtual 51, 3) := by decide +kernel
theorem dX5_close_19 : decode cX5_close 19 = .ok (.invokevirtual 38, 3) := by decide +kernel
theorem dX5_close_22 : decode cX5_close 22 = .ok (.ireturn, 1) := by decide +kernel
theorem dX5_eject_0 : decode cX5_eject 0 = .ok (.aload_n 0, 1) := by decide +kernel
theorem dX5_eject_1 : decode cX5_eject 1 = .ok (.getfield 19, 3) := by decide +kernel
theorem dX5_eject_4 : decode cX5_eject 4 = .ok (.aload_n 0, 1) := by decide +kernel
theorem dX5_eject_5 : decode cX5_eject 5 = .ok (.getfield 12, 3) := by decide +kernel
theorem dX5_eject_8 : decode cX5_eject 8 = .ok (.invokevirtual 30, 3) := by decide +kernel
theorem dX5_eject_11 : decode cX5_eject 11 = .ok (.aload_n 0, 1) := by decide +kernel
theorem dX5_eject_12 : decode cX5_eject 12 = .ok (.aload_n 0, 1) := by decide +kernel
theorem dX5_eject_13 : decode cX5_eject 13 = .ok (.getfield 12, 3) := by decide +kernel
theorem dX5_eject_16 : decode cX5_eject 16 = .ok (.invokevirtual 55, 3) := by decide +kernel
theorem dX5_eject_19 : decode cX5_eject 19 = .ok (.invokevirtual 38, 3) := by decide +kernel
theorem dX5_eject_22 : decode cX5_eject 22 = .ok (.ireturn, 1) := by decide +kernel
theorem dX5_repair_0 : decode cX5_repair 0 = .ok (.aload_n 0, 1) := by decide +kernel
theorem dX5_repair_1 : decode cX5_repair 1 = .ok (.getfield 19, 3) := by decide +kernel
theorem dX5_repair_4 : decode cX5_repair 4 = .ok (.aload_n 0, 1) := by decide +kernel
theorem dX5_repair_5 : decode cX5_repair 5 = .ok (.getfield 12, 3) := by decide +kernel
theorem dX5_repair_8 : decode cX5_repair 8 = .ok (.invokevirtual 30, 3) := by decide +kernel
theorem dX5_repair_11 : decode cX5_repair 11 = .ok (.aload_n 0, 1) := by decide +kernel
theorem dX5_repair_12 : decode cX5_repair 12 = .ok (.aload_n 0, 1) := by decide +kernel
theorem dX5_repair_13 : decode cX5_repair 13 = .ok (.getfield 12, 3) := by decide +kernel
theorem dX5_repair_16 : decode cX5_repair 16 = .ok (.iload_n 1, 1) := by decide +kernel
theorem dX5_repair_17 : decode cX5_repair 17 = .ok (.invokevirtual 58, 3) := by decide +kernel
theorem dX5_repair_20 : decode cX5_repair 20 = .ok (.invokevirtual 38, 3) := by decide +kernel
theorem dX5_repair_23 : decode cX5_repair 23 = .ok (.ireturn, 1) := by decide +kernel
theorem dX5_damage_0 : decode cX5_damage 0 = .ok (.aload_n 0, 1) := by decide +kernel
theorem dX5_damage_1 : decode cX5_damage 1 = .ok (.getfield 19, 3) := by decide +kernel
theorem dX5_damage_4 : decode cX5_damage 4 = .ok (.aload_n 0, 1) := by decide +kernel
theorem dX5_damage_5 : decode cX5_damage 5 = .ok (.getfield 12, 3) := by decide +kernel
theorem dX5_damage_8 : decode cX5_damage 8 = .ok (.invokevirtual 30, 3) := by decide +kernel
theorem dX5_damage_11 : decode cX5_damage 11 = .ok (.aload_n 0, 1) := by decide +kernel
theorem dX5_damage_12 : decode cX5_damage 12 = .ok (.aload_n 0, 1) := by decide +kernel
theorem dX5_damage_13 : decode cX5_damage 13 = .ok (.getfield 12, 3) := by decide +kernel
theorem dX5_damage_16 : decode cX5_damage 16 = .ok (.iload_n 1, 1) := by decide +kernel
theorem dX5_damage_17 : decode cX5_damage 17 = .ok (.invokevirtual 61, 3) := by decide +kernel
theorem dX5_damage_20 : decode cX5_damage 20 = .ok (.invokevirtual 38, 3) := by decide +kernel
theorem dX5_damage_23 : decode cX5_damage 23 = .ok (.ireturn, 1) := by decide +kernel
theorem dX5_set_0 : decode cX5_set 0 = .ok (.aload_n 0, 1) := by decide +kernel
theorem dX5_set_1 : decode cX5_set 1 = .ok (.getfield 19, 3) := by decide +kernel
theorem dX5_set_4 : decode cX5_set 4 = .ok (.aload_n 0, 1) := by decide +kernel
theorem dX5_set_5 : decode cX5_set 5 = .ok (.getfield 12, 3) := by decide +kernel
theorem dX5_set_8 : decode cX5_set 8 = .ok (.invokevirtual 30, 3) := by decide +kernel
theorem dX5_set_11 : decode cX5_set 11 = .ok (.aload_n 0, 1) := by decide +kernel
theorem dX5_set_12 : decode cX5_set 12 = .ok (.aload_n 0, 1) := by decide +kernel
theorem dX5_set_13 : decode cX5_set 13 = .ok (.getfield 12, 3) := by decide +kernel
theorem dX5_set_16 : decode cX5_set 16 = .ok (.iload_n 1, 1) := by decide +kernel
theorem dX5_set_17 : decode cX5_set 17 = .ok (.iload_n 2, 1) := by decide +kernel
theorem dX5_set_18 : decode cX5_set 18 = .ok (.invokevirtual 64, 3) := by decide +kernel
theorem dX5_set_21 : decode cX5_set 21 = .ok (.invokevirtual 38, 3) := by decide +kernel
theorem dX5_set_24 : decode cX5_set 24 = .ok (.ireturn, 1) := by decide +kernel
theorem dX5_append_0 : decode cX5_append 0 = .ok (.iload_n 1, 1) := by decide +kernel
theorem dX5_append_1 : decode cX5_append 1 = .ok (.bipush 32, 2) := by decide +kernel
theorem dX5_append_3 : decode cX5_append 3 = .ok (.if_icmp .lt 9, 3) := by decide +kernel
theorem dX5_append_6 : decode cX5_append 6 = .ok (.iload_n 1, 1) := by decide +kernel
theorem dX5_append_7 : decode cX5_append 7 = .ok (.bipush 126, 2) := by decide +kernel
theorem dX5_append_9 : decode cX5_append 9 = .ok (.if_icmp .le 6, 3) := by decide +kernel
theorem dX5_append_12 : decode cX5_append 12 = .ok (.bipush (-2), 2) := by decide +kernel
theorem dX5_append_14 : decode cX5_append 14 = .ok (.ireturn, 1) := by decide +kernel
theorem dX5_append_15 : decode cX5_append 15 = .ok (.aload_n 0, 1) := by decide +kernel
theorem dX5_append_16 : decode cX5_append 16 = .ok (.getfield 26, 3) := by decide +kernel
theorem dX5_append_19 : decode cX5_append 19 = .ok (.iload_n 1, 1) := by decide +kernel
theorem dX5_append_20 : decode cX5_append 20 = .ok (.i2c, 1) := by decide +kernel
theorem dX5_append_21 : decode cX5_append 21 = .ok (.invokevirtual 67, 3) := by decide +kernel
theorem dX5_append_24 : decode cX5_append 24 = .ok (.ifCond .eq 13, 3) := by decide +kernel
theorem dX5_append_27 : decode cX5_append 27 = .ok (.aload_n 0, 1) := by decide +kernel
theorem dX5_append_28 : decode cX5_append 28 = .ok (.getfield 26, 3) := by decide +kernel
theorem dX5_append_31 : decode cX5_append 31 = .ok (.getfield 71, 3) := by decide +kernel
theorem dX5_append_34 : decode cX5_append 34 = .ok (.goto 5, 3) := by decide +kernel
theorem dX5_append_37 : decode cX5_append 37 = .ok (.bipush (-4), 2) := by decide +kernel
theorem dX5_append_39 : decode cX5_append 39 = .ok (.ireturn, 1) := by decide +kernel
theorem dX5_clearText_0 : decode cX5_clearText 0 = .ok (.aload_n 0, 1) := by decide +kernel
theorem dX5_clearText_1 : decode cX5_clearText 1 = .ok (.getfield 26, 3) := by decide +kernel
theorem dX5_clearText_4 : decode cX5_clearText 4 = .ok (.getfield 71, 3) := by decide +kernel
theorem dX5_clearText_7 : decode cX5_clearText 7 = .ok (.istore_n 1, 1) := by decide +kernel
theorem dX5_clearText_8 : decode cX5_clearText 8 = .ok (.aload_n 0, 1) := by decide +kernel
theorem dX5_clearText_9 : decode cX5_clearText 9 = .ok (.getfield 26, 3) := by decide +kernel
theorem dX5_clearText_12 : decode cX5_clearText 12 = .ok (.iconst 0, 1) := by decide +kernel
theorem dX5_clearText_13 : decode cX5_clearText 13 = .ok (.putfield 71, 3) := by decide +kernel
theorem dX5_clearText_16 : decode cX5_clearText 16 = .ok (.iload_n 1, 1) := by decide +kernel
theorem dX5_clearText_17 : decode cX5_clearText 17 = .ok (.ireturn, 1) := by decide +kernel
theorem dX5_fault_0 : decode cX5_fault 0 = .ok (.aload_n 0, 1) := by decide +kernel
theorem dX5_fault_1 : decode cX5_fault 1 = .ok (.getfield 26, 3) := by decide +kernel
theorem dX5_fault_4 : decode cX5_fault 4 = .ok (.invokevirtual 75, 3) := by decide +kernel
theorem dX5_fault_7 : decode cX5_fault 7 = .ok (.ireturn, 1) := by decide +kernel
theorem dX5_run_0 : decode cX5_run 0 = .ok (.aload_n 0, 1) := by decide +kernel
theorem dX5_run_1 : decode cX5_run 1 = .ok (.getfield 26, 3) := by decide +kernel
theorem dX5_run_4 : decode cX5_run 4 = .ok (.invokevirtual 75, 3) := by decide +kernel
theorem dX5_run_7 : decode cX5_run 7 = .ok (.bipush (-6), 2) := by decide +kernel
theorem dX5_run_9 : decode cX5_run 9 = .ok (.if_icmp .eq 6, 3) := by decide +kernel
theorem dX5_run_12 : decode cX5_run 12 = .ok (.bipush (-3), 2) := by decide +kernel
theorem dX5_run_14 : decode cX5_run 14 = .ok (.ireturn, 1) := by decide +kernel
theorem dX5_run_15 : decode cX5_run 15 = .ok (.aload_n 0, 1) := by decide +kernel
theorem dX5_run_16 : decode cX5_run 16 = .ok (.getfield 19, 3) := by decide +kernel
theorem dX5_run_19 : decode cX5_run 19 = .ok (.aload_n 0, 1) := by decide +kernel
theorem dX5_run_20 : decode cX5_run 20 = .ok (.getfield 12, 3) := by decide +kernel
theorem dX5_run_23 : decode cX5_run 23 = .ok (.invokevirtual 30, 3) := by decide +kernel
theorem dX5_run_26 : decode cX5_run 26 = .ok (.iconst 0, 1) := by decide +kernel
theorem dX5_run_27 : decode cX5_run 27 = .ok (.istore_n 1, 1) := by decide +kernel
theorem dX5_run_28 : decode cX5_run 28 = .ok (.aload_n 0, 1) := by decide +kernel
theorem dX5_run_29 : decode cX5_run 29 = .ok (.getfield 26, 3) := by decide +kernel
theorem dX5_run_32 : decode cX5_run 32 = .ok (.iconst 0, 1) := by decide +kernel
theorem dX5_run_33 : decode cX5_run 33 = .ok (.putfield 78, 3) := by decide +kernel
theorem dX5_run_36 : decode cX5_run 36 = .ok (.iconst 0, 1) := by decide +kernel
theorem dX5_run_37 : decode cX5_run 37 = .ok (.istore_n 2, 1) := by decide +kernel
theorem dX5_run_38 : decode cX5_run 38 = .ok (.iload_n 2, 1) := by decide +kernel
theorem dX5_run_39 : decode cX5_run 39 = .ok (.bipush 80, 2) := by decide +kernel
theorem dX5_run_41 : decode cX5_run 41 = .ok (.if_icmp .ge 48, 3) := by decide +kernel
theorem dX5_run_44 : decode cX5_run 44 = .ok (.aload_n 0, 1) := by decide +kernel
theorem dX5_run_45 : decode cX5_run 45 = .ok (.getfield 26, 3) := by decide +kernel
theorem dX5_run_48 : decode cX5_run 48 = .ok (.invokevirtual 81, 3) := by decide +kernel
theorem dX5_run_51 : decode cX5_run 51 = .ok (.ifCond .eq 38, 3) := by decide +kernel
theorem dX5_run_54 : decode cX5_run 54 = .ok (.aload_n 0, 1) := by decide +kernel
theorem dX5_run_55 : decode cX5_run 55 = .ok (.invokevirtual 85, 3) := by decide +kernel
theorem dX5_run_58 : decode cX5_run 58 = .ok (.invokestatic 88, 3) := by decide +kernel
theorem dX5_run_61 : decode cX5_run 61 = .ok (.ifCond .eq 9, 3) := by decide +kernel
theorem dX5_run_64 : decode cX5_run 64 = .ok (.aload_n 0, 1) := by decide +kernel
theorem dX5_run_65 : decode cX5_run 65 = .ok (.iload_n 1, 1) := by decide +kernel
theorem dX5_run_66 : decode cX5_run 66 = .ok (.invokevirtual 38, 3) := by decide +kernel
theorem dX5_run_69 : decode cX5_run 69 = .ok (.ireturn, 1) := by decide +kernel
theorem dX5_run_70 : decode cX5_run 70 = .ok (.iinc 1 1, 3) := by decide +kernel
theorem dX5_run_73 : decode cX5_run 73 = .ok (.aload_n 0, 1) := by decide +kernel
theorem dX5_run_74 : decode cX5_run 74 = .ok (.getfield 26, 3) := by decide +kernel
theorem dX5_run_77 : decode cX5_run 77 = .ok (.bipush 59, 2) := by decide +kernel
theorem dX5_run_79 : decode cX5_run 79 = .ok (.invokevirtual 92, 3) := by decide +kernel
theorem dX5_run_82 : decode cX5_run 82 = .ok (.pop, 1) := by decide +kernel
theorem dX5_run_83 : decode cX5_run 83 = .ok (.iinc 2 1, 3) := by decide +kernel
theorem dX5_run_86 : decode cX5_run 86 = .ok (.goto (-48), 3) := by decide +kernel
theorem dX5_run_89 : decode cX5_run 89 = .ok (.aload_n 0, 1) := by decide +kernel
theorem dX5_run_90 : decode cX5_run 90 = .ok (.iload_n 1, 1) := by decide +kernel
theorem dX5_run_91 : decode cX5_run 91 = .ok (.invokevirtual 38, 3) := by decide +kernel
theorem dX5_run_94 : decode cX5_run 94 = .ok (.ireturn, 1) := by decide +kernel
theorem dX5_undo_0 : decode cX5_undo 0 = .ok (.aload_n 0, 1) := by decide +kernel
theorem dX5_undo_1 : decode cX5_undo 1 = .ok (.getfield 19, 3) := by decide +kernel
theorem dX5_undo_4 : decode cX5_undo 4 = .ok (.aload_n 0, 1) := by decide +kernel
theorem dX5_undo_5 : decode cX5_undo 5 = .ok (.getfield 12, 3) := by decide +kernel
theorem dX5_undo_8 : decode cX5_undo 8 = .ok (.invokevirtual 95, 3) := by decide +kernel
theorem dX5_undo_11 : decode cX5_undo 11 = .ok (.ifCond .eq 13, 3) := by decide +kernel
theorem dX5_undo_14 : decode cX5_undo 14 = .ok (.aload_n 0, 1) := by decide +kernel
theorem dX5_undo_15 : decode cX5_undo 15 = .ok (.getfield 19, 3) := by decide +kernel
theorem dX5_undo_18 : decode cX5_undo 18 = .ok (.getfield 99, 3) := by decide +kernel
theorem dX5_undo_21 : decode cX5_undo 21 = .ok (.goto 5, 3) := by decide +kernel
theorem dX5_undo_24 : decode cX5_undo 24 = .ok (.bipush (-6), 2) := by decide +kernel
theorem dX5_undo_26 : decode cX5_undo 26 = .ok (.ireturn, 1) := by decide +kernel
theorem dX5_sessions_0 : decode cX5_sessions 0 = .ok (.aload_n 0, 1) := by decide +kernel
theorem dX5_sessions_1 : decode cX5_sessions 1 = .ok (.getfield 12, 3) := by decide +kernel
theorem dX5_sessions_4 : decode cX5_sessions 4 = .ok (.getfield 102, 3) := by decide +kernel
theorem dX5_sessions_7 : decode cX5_sessions 7 = .ok (.ireturn, 1) := by decide +kernel
theorem dX5_session_0 : decode cX5_session 0 = .ok (.aload_n 0, 1) := by decide +kernel
theorem dX5_session_1 : decode cX5_session 1 = .ok (.getfield 12, 3) := by decide +kernel
theorem dX5_session_4 : decode cX5_session 4 = .ok (.iload_n 1, 1) := by decide +kernel
theorem dX5_session_5 : decode cX5_session 5 = .ok (.invokevirtual 105, 3) := by decide +kernel
theorem dX5_session_8 : decode cX5_session 8 = .ok (.astore_n 3, 1) := by decide +kernel
theorem dX5_session_9 : decode cX5_session 9 = .ok (.aload_n 3, 1) := by decide +kernel
theorem dX5_session_10 : decode cX5_session 10 = .ok (.ifnonnull 5, 3) := by decide +kernel
theorem dX5_session_13 : decode cX5_session 13 = .ok (.iconst (-1), 1) := by decide +kernel
theorem dX5_session_14 : decode cX5_session 14 = .ok (.ireturn, 1) := by decide +kernel
theorem dX5_session_15 : decode cX5_session 15 = .ok (.iload_n 2, 1) := by decide +kernel
theorem dX5_session_16 : decode cX5_session 16 = .ok (.tableswitch 106 0 7 #[48, 53, 58, 68, 73, 78, 83, 101], 48) := by decide +kernel
theorem dX5_session_64 : decode cX5_session 64 = .ok (.aload_n 3, 1) := by decide +kernel
theorem dX5_session_65 : decode cX5_session 65 = .ok (.getfield 109, 3) := by decide +kernel
theorem dX5_session_68 : decode cX5_session 68 = .ok (.ireturn, 1) := by decide +kernel
theorem dX5_session_69 : decode cX5_session 69 = .ok (.aload_n 3, 1) := by decide +kernel
theorem dX5_session_70 : decode cX5_session 70 = .ok (.getfield 114, 3) := by decide +kernel
theorem dX5_session_73 : decode cX5_session 73 = .ok (.ireturn, 1) := by decide +kernel
theorem dX5_session_74 : decode cX5_session 74 = .ok (.aload_n 3, 1) := by decide +kernel
theorem dX5_session_75 : decode cX5_session 75 = .ok (.getfield 117, 3) := by decide +kernel
theorem dX5_session_78 : decode cX5_session 78 = .ok (.aload_n 3, 1) := by decide +kernel
theorem dX5_session_79 : decode cX5_session 79 = .ok (.getfield 114, 3) := by decide +kernel
theorem dX5_session_82 : decode cX5_session 82 = .ok (.isub, 1) := by decide +kernel
theorem dX5_session_83 : decode cX5_session 83 = .ok (.ireturn, 1) := by decide +kernel
theorem dX5_session_84 : decode cX5_session 84 = .ok (.aload_n 3, 1) := by decide +kernel
theorem dX5_session_85 : decode cX5_session 85 = .ok (.getfield 120, 3) := by decide +kernel
theorem dX5_session_88 : decode cX5_session 88 = .ok (.ireturn, 1) := by decide +kernel
theorem dX5_session_89 : decode cX5_session 89 = .ok (.aload_n 3, 1) := by decide +kernel
theorem dX5_session_90 : decode cX5_session 90 = .ok (.getfield 123, 3) := by decide +kernel
theorem dX5_session_93 : decode cX5_session 93 = .ok (.ireturn, 1) := by decide +kernel
theorem dX5_session_94 : decode cX5_session 94 = .ok (.aload_n 3, 1) := by decide +kernel
theorem dX5_session_95 : decode cX5_session 95 = .ok (.invokevirtual 126, 3) := by decide +kernel
theorem dX5_session_98 : decode cX5_session 98 = .ok (.ireturn, 1) := by decide +kernel
theorem dX5_session_99 : decode cX5_session 99 = .ok (.aload_n 0, 1) := by decide +kernel
theorem dX5_session_100 : decode cX5_session 100 = .ok (.getfield 12, 3) := by decide +kernel
theorem dX5_session_103 : decode cX5_session 103 = .ok (.aload_n 3, 1) := by decide +kernel
theorem dX5_session_104 : decode cX5_session 104 = .ok (.iconst (-1), 1) := by decide +kernel
theorem dX5_session_105 : decode cX5_session 105 = .ok (.invokevirtual 129, 3) := by decide +kernel
theorem dX5_session_108 : decode cX5_session 108 = .ok (.ifCond .eq 7, 3) := by decide +kernel
theorem dX5_session_111 : decode cX5_session 111 = .ok (.iconst 1, 1) := by decide +kernel
theorem dX5_session_112 : decode cX5_session 112 = .ok (.goto 4, 3) := by decide +kernel
theorem dX5_session_115 : decode cX5_session 115 = .ok (.iconst 0, 1) := by decide +kernel
theorem dX5_session_116 : decode cX5_session 116 = .ok (.ireturn, 1) := by decide +kernel
theorem dX5_session_117 : decode cX5_session 117 = .ok (.aload_n 3, 1) := by decide +kernel
theorem dX5_session_118 : decode cX5_session 118 = .ok (.getfield 133, 3) := by decide +kernel
theorem dX5_session_121 : decode cX5_session 121 = .ok (.ireturn, 1) := by decide +kernel
theorem dX5_session_122 : decode cX5_session 122 = .ok (.bipush (-2), 2) := by decide +kernel
theorem dX5_session_124 : decode cX5_session 124 = .ok (.ireturn, 1) := by decide +kernel
theorem dX5_entry_0 : decode cX5_entry 0 = .ok (.aload_n 0, 1) := by decide +kernel
theorem dX5_entry_1 : decode cX5_entry 1 = .ok (.getfield 12, 3) := by decide +kernel
theorem dX5_entry_4 : decode cX5_entry 4 = .ok (.iload_n 1, 1) := by decide +kernel
theorem dX5_entry_5 : decode cX5_entry 5 = .ok (.invokevirtual 105, 3) := by decide +kernel
theorem dX5_entry_8 : decode cX5_entry 8 = .ok (.astore 4, 2) := by decide +kernel
theorem dX5_entry_10 : decode cX5_entry 10 = .ok (.aload 4, 2) := by decide +kernel
theorem dX5_entry_12 : decode cX5_entry 12 = .ok (.ifnull 10, 3) := by decide +kernel
theorem dX5_entry_15 : decode cX5_entry 15 = .ok (.iload_n 2, 1) := by decide +kernel
theorem dX5_entry_16 : decode cX5_entry 16 = .ok (.invokestatic 136, 3) := by decide +kernel
theorem dX5_entry_19 : decode cX5_entry 19 = .ok (.ifCond .ne 5, 3) := by decide +kernel
theorem dX5_entry_22 : decode cX5_entry 22 = .ok (.iconst (-1), 1) := by decide +kernel
theorem dX5_entry_23 : decode cX5_entry 23 = .ok (.ireturn, 1) := by decide +kernel
theorem dX5_entry_24 : decode cX5_entry 24 = .ok (.iload_n 3, 1) := by decide +kernel
theorem dX5_entry_25 : decode cX5_entry 25 = .ok (.ifCond .lt 8, 3) := by decide +kernel
theorem dX5_entry_28 : decode cX5_entry 28 = .ok (.iload_n 3, 1) := by decide +kernel
theorem dX5_entry_29 : decode cX5_entry 29 = .ok (.iconst 2, 1) := by decide +kernel
theorem dX5_entry_30 : decode cX5_entry 30 = .ok (.if_icmp .le 6, 3) := by decide +kernel
theorem dX5_entry_33 : decode cX5_entry 33 = .ok (.bipush (-2), 2) := by decide +kernel
theorem dX5_entry_35 : decode cX5_entry 35 = .ok (.ireturn, 1) := by decide +kernel
theorem dX5_entry_36 : decode cX5_entry 36 = .ok (.aload 4, 2) := by decide +kernel
theorem dX5_entry_38 : decode cX5_entry 38 = .ok (.iload_n 2, 1) := by decide +kernel
theorem dX5_entry_39 : decode cX5_entry 39 = .ok (.invokevirtual 139, 3) := by decide +kernel
theorem dX5_entry_42 : decode cX5_entry 42 = .ok (.astore 5, 2) := by decide +kernel
theorem dX5_entry_44 : decode cX5_entry 44 = .ok (.aload 5, 2) := by decide +kernel
theorem dX5_entry_46 : decode cX5_entry 46 = .ok (.ifnonnull 6, 3) := by decide +kernel
theorem dX5_entry_49 : decode cX5_entry 49 = .ok (.bipush (-6), 2) := by decide +kernel
theorem dX5_entry_51 : decode cX5_entry 51 = .ok (.ireturn, 1) := by decide +kernel
theorem dX5_entry_52 : decode cX5_entry 52 = .ok (.iload_n 3, 1) := by decide +kernel
theorem dX5_entry_53 : decode cX5_entry 53 = .ok (.lookupswitch 39 #[(0, 27), (1, 33)], 27) := by decide +kernel
theorem dX5_entry_80 : decode cX5_entry 80 = .ok (.aload 5, 2) := by decide +kernel
theorem dX5_entry_82 : decode cX5_entry 82 = .ok (.getfield 143, 3) := by decide +kernel
theorem dX5_entry_85 : decode cX5_entry 85 = .ok (.ireturn, 1) := by decide +kernel
theorem dX5_entry_86 : decode cX5_entry 86 = .ok (.aload 5, 2) := by decide +kernel
theorem dX5_entry_88 : decode cX5_entry 88 = .ok (.getfield 146, 3) := by decide +kernel
theorem dX5_entry_91 : decode cX5_entry 91 = .ok (.ireturn, 1) := by decide +kernel
theorem dX5_entry_92 : decode cX5_entry 92 = .ok (.aload 5, 2) := by decide +kernel
theorem dX5_entry_94 : decode cX5_entry 94 = .ok (.getfield 149, 3) := by decide +kernel
theorem dX5_entry_97 : decode cX5_entry 97 = .ok (.ireturn, 1) := by decide +kernel
theorem dX5_valid_0 : decode cX5_valid 0 = .ok (.aload_n 0, 1) := by decide +kernel
theorem dX5_valid_1 : decode cX5_valid 1 = .ok (.getfield 12, 3) := by decide +kernel
theorem dX5_valid_4 : decode cX5_valid 4 = .ok (.iconst (-1), 1) := by decide +kernel
theorem dX5_valid_5 : decode cX5_valid 5 = .ok (.invokevirtual 152, 3) := by decide +kernel
theorem dX5_valid_8 : decode cX5_valid 8 = .ok (.ireturn, 1) := by decide +kernel
theorem dX5_next_0 : decode cX5_next 0 = .ok (.aload_n 0, 1) := by decide +kernel
theorem dX5_next_1 : decode cX5_next 1 = .ok (.getfield 12, 3) := by decide +kernel
theorem dX5_next_4 : decode cX5_next 4 = .ok (.getfield 155, 3) := by decide +kernel
theorem dX5_next_7 : decode cX5_next 7 = .ok (.ireturn, 1) := by decide +kernel
theorem dX5_damaged_0 : decode cX5_damaged 0 = .ok (.iload_n 1, 1) := by decide +kernel
theorem dX5_damaged_1 : decode cX5_damaged 1 = .ok (.invokestatic 158, 3) := by decide +kernel
theorem dX5_damaged_4 : decode cX5_damaged 4 = .ok (.ifCond .ne 5, 3) := by decide +kernel
theorem dX5_damaged_7 : decode cX5_damaged 7 = .ok (.iconst (-1), 1) := by decide +kernel
theorem dX5_damaged_8 : decode cX5_damaged 8 = .ok (.ireturn, 1) := by decide +kernel
theorem dX5_damaged_9 : decode cX5_damaged 9 = .ok (.aload_n 0, 1) := by decide +kernel
theorem dX5_damaged_10 : decode cX5_damaged 10 = .ok (.getfield 12, 3) := by decide +kernel
theorem dX5_damaged_13 : decode cX5_damaged 13 = .ok (.getfield 161, 3) := by decide +kernel
theorem dX5_damaged_16 : decode cX5_damaged 16 = .ok (.iload_n 1, 1) := by decide +kernel
theorem dX5_damaged_17 : decode cX5_damaged 17 = .ok (.baload, 1) := by decide +kernel
theorem dX5_damaged_18 : decode cX5_damaged 18 = .ok (.ifCond .eq 7, 3) := by decide +kernel
theorem dX5_damaged_21 : decode cX5_damaged 21 = .ok (.iconst 1, 1) := by decide +kernel
theorem dX5_damaged_22 : decode cX5_damaged 22 = .ok (.goto 4, 3) := by decide +kernel
theorem dX5_damaged_25 : decode cX5_damaged 25 = .ok (.iconst 0, 1) := by decide +kernel
theorem dX5_damaged_26 : decode cX5_damaged 26 = .ok (.ireturn, 1) := by decide +kernel
theorem dX5_use_0 : decode cX5_use 0 = .ok (.iload_n 1, 1) := by decide +kernel
theorem dX5_use_1 : decode cX5_use 1 = .ok (.invokestatic 158, 3) := by decide +kernel
theorem dX5_use_4 : decode cX5_use 4 = .ok (.ifCond .eq 14, 3) := by decide +kernel
theorem dX5_use_7 : decode cX5_use 7 = .ok (.aload_n 0, 1) := by decide +kernel
theorem dX5_use_8 : decode cX5_use 8 = .ok (.getfield 12, 3) := by decide +kernel
theorem dX5_use_11 : decode cX5_use 11 = .ok (.iload_n 1, 1) := by decide +kernel
theorem dX5_use_12 : decode cX5_use 12 = .ok (.invokevirtual 165, 3) := by decide +kernel
theorem dX5_use_15 : decode cX5_use 15 = .ok (.goto 4, 3) := by decide +kernel
theorem dX5_use_18 : decode cX5_use 18 = .ok (.iconst (-1), 1) := by decide +kernel
theorem dX5_use_19 : decode cX5_use 19 = .ok (.ireturn, 1) := by decide +kernel
theorem dX5_setting_0 : decode cX5_setting 0 = .ok (.iload_n 1, 1) := by decide +kernel
theorem dX5_setting_1 : decode cX5_setting 1 = .ok (.invokestatic 168, 3) := by decide +kernel
theorem dX5_setting_4 : decode cX5_setting 4 = .ok (.ifCond .eq 15, 3) := by decide +kernel
theorem dX5_setting_7 : decode cX5_setting 7 = .ok (.aload_n 0, 1) := by decide +kernel
theorem dX5_setting_8 : decode cX5_setting 8 = .ok (.getfield 12, 3) := by decide +kernel
theorem dX5_setting_11 : decode cX5_setting 11 = .ok (.getfield 171, 3) := by decide +kernel
theorem dX5_setting_14 : decode cX5_setting 14 = .ok (.iload_n 1, 1) := by decide +kernel
theorem dX5_setting_15 : decode cX5_setting 15 = .ok (.iaload, 1) := by decide +kernel
theorem dX5_setting_16 : decode cX5_setting 16 = .ok (.goto 4, 3) := by decide +kernel
theorem dX5_setting_19 : decode cX5_setting 19 = .ok (.iconst (-1), 1) := by decide +kernel
theorem dX5_setting_20 : decode cX5_setting 20 = .ok (.ireturn, 1) := by decide +kernel
theorem dX5_find_0 : decode cX5_find 0 = .ok (.iload_n 1, 1) := by decide +kernel
theorem dX5_find_1 : decode cX5_find 1 = .ok (.invokestatic 136, 3) := by decide +kernel
theorem dX5_find_4 : decode cX5_find 4 = .ok (.ifCond .ne 5, 3) := by decide +kernel
theorem dX5_find_7 : decode cX5_find 7 = .ok (.iconst (-1), 1) := by decide +kernel
theorem dX5_find_8 : decode cX5_find 8 = .ok (.ireturn, 1) := by decide +kernel
theorem dX5_find_9 : decode cX5_find 9 = .ok (.aload_n 0, 1) := by decide +kernel
theorem dX5_find_10 : decode cX5_find 10 = .ok (.getfield 12, 3) := by decide +kernel
theorem dX5_find_13 : decode cX5_find 13 = .ok (.iload_n 1, 1) := by decide +kernel
theorem dX5_find_14 : decode cX5_find 14 = .ok (.invokevirtual 175, 3) := by decide +kernel
theorem dX5_find_17 : decode cX5_find 17 = .ok (.astore_n 2, 1) := by decide +kernel
theorem dX5_find_18 : decode cX5_find 18 = .ok (.aload_n 2, 1) := by decide +kernel
theorem dX5_find_19 : decode cX5_find 19 = .ok (.ifnonnull 8, 3) := by decide +kernel
theorem dX5_find_22 : decode cX5_find 22 = .ok (.bipush (-6), 2) := by decide +kernel
theorem dX5_find_24 : decode cX5_find 24 = .ok (.goto 7, 3) := by decide +kernel
theorem dX5_find_27 : decode cX5_find 27 = .ok (.aload_n 2, 1) := by decide +kernel
theorem dX5_find_28 : decode cX5_find 28 = .ok (.getfield 143, 3) := by decide +kernel
theorem dX5_find_31 : decode cX5_find 31 = .ok (.ireturn, 1) := by decide +kernel
theorem dX5_intact_0 : decode cX5_intact 0 = .ok (.iload_n 1, 1) := by decide +kernel
theorem dX5_intact_1 : decode cX5_intact 1 = .ok (.invokestatic 136, 3) := by decide +kernel
theorem dX5_intact_4 : decode cX5_intact 4 = .ok (.ifCond .ne 5, 3) := by decide +kernel
theorem dX5_intact_7 : decode cX5_intact 7 = .ok (.iconst (-1), 1) := by decide +kernel
theorem dX5_intact_8 : decode cX5_intact 8 = .ok (.ireturn, 1) := by decide +kernel
theorem dX5_intact_9 : decode cX5_intact 9 = .ok (.aload_n 0, 1) := by decide +kernel
theorem dX5_intact_10 : decode cX5_intact 10 = .ok (.getfield 12, 3) := by decide +kernel
theorem dX5_intact_13 : decode cX5_intact 13 = .ok (.iload_n 1, 1) := by decide +kernel
theorem dX5_intact_14 : decode cX5_intact 14 = .ok (.invokevirtual 175, 3) := by decide +kernel
theorem dX5_intact_17 : decode cX5_intact 17 = .ok (.astore_n 2, 1) := by decide +kernel
theorem dX5_intact_18 : decode cX5_intact 18 = .ok (.aload_n 2, 1) := by decide +kernel
theorem dX5_intact_19 : decode cX5_intact 19 = .ok (.ifnonnull 6, 3) := by decide +kernel
theorem dX5_intact_22 : decode cX5_intact 22 = .ok (.bipush (-6), 2) := by decide +kernel
theorem dX5_intact_24 : decode cX5_intact 24 = .ok (.ireturn, 1) := by decide +kernel
theorem dX5_intact_25 : decode cX5_intact 25 = .ok (.aload_n 0, 1) := by decide +kernel
theorem dX5_intact_26 : decode cX5_intact 26 = .ok (.getfield 12, 3) := by decide +kernel
theorem dX5_intact_29 : decode cX5_intact 29 = .ok (.aload_n 2, 1) := by decide +kernel
theorem dX5_intact_30 : decode cX5_intact 30 = .ok (.iconst (-1), 1) := by decide +kernel
theorem dX5_intact_31 : decode cX5_intact 31 = .ok (.invokevirtual 178, 3) := by decide +kernel
theorem dX5_intact_34 : decode cX5_intact 34 = .ok (.ifCond .eq 7, 3) := by decide +kernel
theorem dX5_intact_37 : decode cX5_intact 37 = .ok (.iconst 1, 1) := by decide +kernel
theorem dX5_intact_38 : decode cX5_intact 38 = .ok (.goto 4, 3) := by decide +kernel
theorem dX5_intact_41 : decode cX5_intact 41 = .ok (.iconst 0, 1) := by decide +kernel
theorem dX5_intact_42 : decode cX5_intact 42 = .ok (.ireturn, 1) := by decide +kernel
theorem dX5_intactFiles_0 : decode cX5_intactFiles 0 = .ok (.aload_n 0, 1) := by decide +kernel
theorem dX5_intactFiles_1 : decode cX5_intactFiles 1 = .ok (.getfield 12, 3) := by decide +kernel
theorem dX5_intactFiles_4 : decode cX5_intactFiles 4 = .ok (.iconst (-1), 1) := by decide +kernel
theorem dX5_intactFiles_5 : decode cX5_intactFiles 5 = .ok (.invokevirtual 182, 3) := by decide +kernel
theorem dX5_intactFiles_8 : decode cX5_intactFiles 8 = .ok (.ireturn, 1) := by decide +kernel
theorem dX5_versions_0 : decode cX5_versions 0 = .ok (.iload_n 1, 1) := by decide +kernel
theorem dX5_versions_1 : decode cX5_versions 1 = .ok (.invokestatic 136, 3) := by decide +kernel
theorem dX5_versions_4 : decode cX5_versions 4 = .ok (.ifCond .eq 15, 3) := by decide +kernel
theorem dX5_versions_7 : decode cX5_versions 7 = .ok (.aload_n 0, 1) := by decide +kernel
theorem dX5_versions_8 : decode cX5_versions 8 = .ok (.getfield 12, 3) := by decide +kernel
theorem dX5_versions_11 : decode cX5_versions 11 = .ok (.getfield 185, 3) := by decide +kernel
theorem dX5_versions_14 : decode cX5_versions 14 = .ok (.iload_n 1, 1) := by decide +kernel
theorem dX5_versions_15 : decode cX5_versions 15 = .ok (.iaload, 1) := by decide +kernel
theorem dX5_versions_16 : decode cX5_versions 16 = .ok (.goto 4, 3) := by decide +kernel
theorem dX5_versions_19 : decode cX5_versions 19 = .ok (.iconst (-1), 1) := by decide +kernel
theorem dX5_versions_20 : decode cX5_versions 20 = .ok (.ireturn, 1) := by decide +kernel
theorem dX5_latestIntact_0 : decode cX5_latestIntact 0 = .ok (.iload_n 1, 1) := by decide +kernel
theorem dX5_latestIntact_1 : decode cX5_latestIntact 1 = .ok (.invokestatic 136, 3) := by decide +kernel
theorem dX5_latestIntact_4 : decode cX5_latestIntact 4 = .ok (.ifCond .eq 14, 3) := by decide +kernel
theorem dX5_latestIntact_7 : decode cX5_latestIntact 7 = .ok (.aload_n 0, 1) := by decide +kernel
theorem dX5_latestIntact_8 : decode cX5_latestIntact 8 = .ok (.getfield 12, 3) := by decide +kernel
theorem dX5_latestIntact_11 : decode cX5_latestIntact 11 = .ok (.iload_n 1, 1) := by decide +kernel
theorem dX5_latestIntact_12 : decode cX5_latestIntact 12 = .ok (.invokevirtual 188, 3) := by decide +kernel
theorem dX5_latestIntact_15 : decode cX5_latestIntact 15 = .ok (.goto 4, 3) := by decide +kernel
theorem dX5_latestIntact_18 : decode cX5_latestIntact 18 = .ok (.iconst (-1), 1) := by decide +kernel
theorem dX5_latestIntact_19 : decode cX5_latestIntact 19 = .ok (.ireturn, 1) := by decide +kernel
theorem dX5_lost_0 : decode cX5_lost 0 = .ok (.aload_n 0, 1) := by decide +kernel
theorem dX5_lost_1 : decode cX5_lost 1 = .ok (.getfield 12, 3) := by decide +kernel
theorem dX5_lost_4 : decode cX5_lost 4 = .ok (.getfield 155, 3) := by decide +kernel
theorem dX5_lost_7 : decode cX5_lost 7 = .ok (.aload_n 0, 1) := by decide +kernel
theorem dX5_lost_8 : decode cX5_lost 8 = .ok (.getfield 12, 3) := by decide +kernel
theorem dX5_lost_11 : decode cX5_lost 11 = .ok (.invokevirtual 191, 3) := by decide +kernel
theorem dX5_lost_14 : decode cX5_lost 14 = .ok (.isub, 1) := by decide +kernel
theorem dX5_lost_15 : decode cX5_lost 15 = .ok (.ireturn, 1) := by decide +kernel
theorem dX5_usedWell_0 : decode cX5_usedWell 0 = .ok (.aload_n 0, 1) := by decide +kernel
theorem dX5_usedWell_1 : decode cX5_usedWell 1 = .ok (.getfield 12, 3) := by decide +kernel
theorem dX5_usedWell_4 : decode cX5_usedWell 4 = .ok (.getfield 155, 3) := by decide +kernel
theorem dX5_usedWell_7 : decode cX5_usedWell 7 = .ok (.ifCond .ne 5, 3) := by decide +kernel
theorem dX5_usedWell_10 : decode cX5_usedWell 10 = .ok (.fconst 1, 1) := by decide +kernel
theorem dX5_usedWell_11 : decode cX5_usedWell 11 = .ok (.freturn, 1) := by decide +kernel
theorem dX5_usedWell_12 : decode cX5_usedWell 12 = .ok (.aload_n 0, 1) := by decide +kernel
theorem dX5_usedWell_13 : decode cX5_usedWell 13 = .ok (.getfield 12, 3) := by decide +kernel
theorem dX5_usedWell_16 : decode cX5_usedWell 16 = .ok (.invokevirtual 191, 3) := by decide +kernel
theorem dX5_usedWell_19 : decode cX5_usedWell 19 = .ok (.i2f, 1) := by decide +kernel
theorem dX5_usedWell_20 : decode cX5_usedWell 20 = .ok (.aload_n 0, 1) := by decide +kernel
theorem dX5_usedWell_21 : decode cX5_usedWell 21 = .ok (.getfield 12, 3) := by decide +kernel
theorem dX5_usedWell_24 : decode cX5_usedWell 24 = .ok (.getfield 155, 3) := by decide +kernel
theorem dX5_usedWell_27 : decode cX5_usedWell 27 = .ok (.i2f, 1) := by decide +kernel
theorem dX5_usedWell_28 : decode cX5_usedWell 28 = .ok (.fdiv, 1) := by decide +kernel
theorem dX5_usedWell_29 : decode cX5_usedWell 29 = .ok (.freturn, 1) := by decide +kernel
theorem dX5_largest_0 : decode cX5_largest 0 = .ok (.aload_n 0, 1) := by decide +kernel
theorem dX5_largest_1 : decode cX5_largest 1 = .ok (.getfield 12, 3) := by decide +kernel
theorem dX5_largest_4 : decode cX5_largest 4 = .ok (.invokevirtual 194, 3) := by decide +kernel
theorem dX5_largest_7 : decode cX5_largest 7 = .ok (.bipush 40, 2) := by decide +kernel
theorem dX5_largest_9 : decode cX5_largest 9 = .ok (.invokestatic 197, 3) := by decide +kernel
theorem dX5_largest_12 : decode cX5_largest 12 = .ok (.ireturn, 1) := by decide +kernel
theorem dX5_filesLeft_0 : decode cX5_filesLeft 0 = .ok (.iload_n 1, 1) := by decide +kernel
theorem dX5_filesLeft_1 : decode cX5_filesLeft 1 = .ok (.invokestatic 202, 3) := by decide +kernel
theorem dX5_filesLeft_4 : decode cX5_filesLeft 4 = .ok (.ifCond .eq 15, 3) := by decide +kernel
theorem dX5_filesLeft_7 : decode cX5_filesLeft 7 = .ok (.aload_n 0, 1) := by decide +kernel
theorem dX5_filesLeft_8 : decode cX5_filesLeft 8 = .ok (.getfield 12, 3) := by decide +kernel
theorem dX5_filesLeft_11 : decode cX5_filesLeft 11 = .ok (.invokevirtual 194, 3) := by decide +kernel
theorem dX5_filesLeft_14 : decode cX5_filesLeft 14 = .ok (.iload_n 1, 1) := by decide +kernel
theorem dX5_filesLeft_15 : decode cX5_filesLeft 15 = .ok (.idiv, 1) := by decide +kernel
theorem dX5_filesLeft_16 : decode cX5_filesLeft 16 = .ok (.goto 5, 3) := by decide +kernel
theorem dX5_filesLeft_19 : decode cX5_filesLeft 19 = .ok (.bipush (-2), 2) := by decide +kernel
theorem dX5_filesLeft_21 : decode cX5_filesLeft 21 = .ok (.ireturn, 1) := by decide +kernel
theorem dX5_filesEach_0 : decode cX5_filesEach 0 = .ok (.iload_n 1, 1) := by decide +kernel
theorem dX5_filesEach_1 : decode cX5_filesEach 1 = .ok (.invokestatic 202, 3) := by decide +kernel
theorem dX5_filesEach_4 : decode cX5_filesEach 4 = .ok (.ifCond .eq 14, 3) := by decide +kernel
theorem dX5_filesEach_7 : decode cX5_filesEach 7 = .ok (.aload_n 0, 1) := by decide +kernel
theorem dX5_filesEach_8 : decode cX5_filesEach 8 = .ok (.getfield 12, 3) := by decide +kernel
theorem dX5_filesEach_11 : decode cX5_filesEach 11 = .ok (.iload_n 1, 1) := by decide +kernel
theorem dX5_filesEach_12 : decode cX5_filesEach 12 = .ok (.invokevirtual 205, 3) := by decide +kernel
theorem dX5_filesEach_15 : decode cX5_filesEach 15 = .ok (.goto 5, 3) := by decide +kernel
theorem dX5_filesEach_18 : decode cX5_filesEach 18 = .ok (.bipush (-2), 2) := by decide +kernel
theorem dX5_filesEach_20 : decode cX5_filesEach 20 = .ok (.ireturn, 1) := by decide +kernel
theorem dX5_validIf_0 : decode cX5_validIf 0 = .ok (.iload_n 1, 1) := by decide +kernel
theorem dX5_validIf_1 : decode cX5_validIf 1 = .ok (.invokestatic 158, 3) := by decide +kernel
theorem dX5_validIf_4 : decode cX5_validIf 4 = .ok (.ifCond .eq 14, 3) := by decide +kernel
theorem dX5_validIf_7 : decode cX5_validIf 7 = .ok (.aload_n 0, 1) := by decide +kernel
theorem dX5_validIf_8 : decode cX5_validIf 8 = .ok (.getfield 12, 3) := by decide +kernel
theorem dX5_validIf_11 : decode cX5_validIf 11 = .ok (.iload_n 1, 1) := by decide +kernel
theorem dX5_validIf_12 : decode cX5_validIf 12 = .ok (.invokevirtual 152, 3) := by decide +kernel
theorem dX5_validIf_15 : decode cX5_validIf 15 = .ok (.goto 4, 3) := by decide +kernel
theorem dX5_validIf_18 : decode cX5_validIf 18 = .ok (.iconst (-1), 1) := by decide +kernel
theorem dX5_validIf_19 : decode cX5_validIf 19 = .ok (.ireturn, 1) := by decide +kernel
theorem dX5_worstSector_0 : decode cX5_worstSector 0 = .ok (.aload_n 0, 1) := by decide +kernel
theorem dX5_worstSector_1 : decode cX5_worstSector 1 = .ok (.getfield 12, 3) := by decide +kernel
theorem dX5_worstSector_4 : decode cX5_worstSector 4 = .ok (.invokevirtual 208, 3) := by decide +kernel
theorem dX5_worstSector_7 : decode cX5_worstSector 7 = .ok (.ireturn, 1) := by decide +kernel
theorem dX5_recorded_0 : decode cX5_recorded 0 = .ok (.iload_n 1, 1) := by decide +kernel
theorem dX5_recorded_1 : decode cX5_recorded 1 = .ok (.invokestatic 88, 3) := by decide +kernel
theorem dX5_recorded_4 : decode cX5_recorded 4 = .ok (.ifCond .ne 10, 3) := by decide +kernel
theorem dX5_recorded_7 : decode cX5_recorded 7 = .ok (.aload_n 0, 1) := by decide +kernel
theorem dX5_recorded_8 : decode cX5_recorded 8 = .ok (.getfield 19, 3) := by decide +kernel
theorem dX5_recorded_11 : decode cX5_recorded 11 = .ok (.invokevirtual 211, 3) := by decide +kernel
theorem dX5_recorded_14 : decode cX5_recorded 14 = .ok (.iload_n 1, 1) := by decide +kernel
theorem dX5_recorded_15 : decode cX5_recorded 15 = .ok (.ireturn, 1) := by decide +kernel
theorem dX5_executeCommand_0 : decode cX5_executeCommand 0 = .ok (.aload_n 0, 1) := by decide +kernel
theorem dX5_executeCommand_1 : decode cX5_executeCommand 1 = .ok (.getfield 26, 3) := by decide +kernel
theorem dX5_executeCommand_4 : decode cX5_executeCommand 4 = .ok (.getfield 214, 3) := by decide +kernel
theorem dX5_executeCommand_7 : decode cX5_executeCommand 7 = .ok (.tableswitch 206 98 119 #[101, 175, 191, 183, 206, 206, 206, 206, 206, 153, 206, 206, 206, 206, 206, 206, 138, 206, 206, 206, 206, 116], 101) := by decide +kernel
theorem dX5_executeCommand_108 : decode cX5_executeCommand 108 = .ok (.aload_n 0, 1) := by decide +kernel
theorem dX5_executeCommand_109 : decode cX5_executeCommand 109 = .ok (.getfield 12, 3) := by decide +kernel
theorem dX5_executeCommand_112 : decode cX5_executeCommand 112 = .ok (.aload_n 0, 1) := by decide +kernel
theorem dX5_executeCommand_113 : decode cX5_executeCommand 113 = .ok (.getfield 26, 3) := by decide +kernel
theorem dX5_executeCommand_116 : decode cX5_executeCommand 116 = .ok (.getfield 217, 3) := by decide +kernel
theorem dX5_executeCommand_119 : decode cX5_executeCommand 119 = .ok (.invokevirtual 34, 3) := by decide +kernel
theorem dX5_executeCommand_122 : decode cX5_executeCommand 122 = .ok (.ireturn, 1) := by decide +kernel
theorem dX5_executeCommand_123 : decode cX5_executeCommand 123 = .ok (.aload_n 0, 1) := by decide +kernel
theorem dX5_executeCommand_124 : decode cX5_executeCommand 124 = .ok (.getfield 12, 3) := by decide +kernel
theorem dX5_executeCommand_127 : decode cX5_executeCommand 127 = .ok (.aload_n 0, 1) := by decide +kernel
theorem dX5_executeCommand_128 : decode cX5_executeCommand 128 = .ok (.getfield 26, 3) := by decide +kernel
theorem dX5_executeCommand_131 : decode cX5_executeCommand 131 = .ok (.getfield 217, 3) := by decide +kernel
theorem dX5_executeCommand_134 : decode cX5_executeCommand 134 = .ok (.aload_n 0, 1) := by decide +kernel
theorem dX5_executeCommand_135 : decode cX5_executeCommand 135 = .ok (.getfield 26, 3) := by decide +kernel
theorem dX5_executeCommand_138 : decode cX5_executeCommand 138 = .ok (.getfield 220, 3) := by decide +kernel
theorem dX5_executeCommand_141 : decode cX5_executeCommand 141 = .ok (.invokevirtual 41, 3) := by decide +kernel
theorem dX5_executeCommand_144 : decode cX5_executeCommand 144 = .ok (.ireturn, 1) := by decide +kernel
theorem dX5_executeCommand_145 : decode cX5_executeCommand 145 = .ok (.aload_n 0, 1) := by decide +kernel
theorem dX5_executeCommand_146 : decode cX5_executeCommand 146 = .ok (.getfield 12, 3) := by decide +kernel
theorem dX5_executeCommand_149 : decode cX5_executeCommand 149 = .ok (.aload_n 0, 1) := by decide +kernel
theorem dX5_executeCommand_150 : decode cX5_executeCommand 150 = .ok (.getfield 26, 3) := by decide +kernel
theorem dX5_executeCommand_153 : decode cX5_executeCommand 153 = .ok (.getfield 217, 3) := by decide +kernel
theorem dX5_executeCommand_156 : decode cX5_executeCommand 156 = .ok (.invokevirtual 45, 3) := by decide +kernel
theorem dX5_executeCommand_159 : decode cX5_executeCommand 159 = .ok (.ireturn, 1) := by decide +kernel
theorem dX5_executeCommand_160 : decode cX5_executeCommand 160 = .ok (.aload_n 0, 1) := by decide +kernel
theorem dX5_executeCommand_161 : decode cX5_executeCommand 161 = .ok (.getfield 12, 3) := by decide +kernel
theorem dX5_executeCommand_164 : decode cX5_executeCommand 164 = .ok (.aload_n 0, 1) := by decide +kernel
theorem dX5_executeCommand_165 : decode cX5_executeCommand 165 = .ok (.getfield 26, 3) := by decide +kernel
theorem dX5_executeCommand_168 : decode cX5_executeCommand 168 = .ok (.getfield 217, 3) := by decide +kernel
theorem dX5_executeCommand_171 : decode cX5_executeCommand 171 = .ok (.aload_n 0, 1) := by decide +kernel
theorem dX5_executeCommand_172 : decode cX5_executeCommand 172 = .ok (.getfield 26, 3) := by decide +kernel
theorem dX5_executeCommand_175 : decode cX5_executeCommand 175 = .ok (.getfield 220, 3) := by decide +kernel
theorem dX5_executeCommand_178 : decode cX5_executeCommand 178 = .ok (.invokevirtual 48, 3) := by decide +kernel
theorem dX5_executeCommand_181 : decode cX5_executeCommand 181 = .ok (.ireturn, 1) := by decide +kernel
theorem dX5_executeCommand_182 : decode cX5_executeCommand 182 = .ok (.aload_n 0, 1) := by decide +kernel
theorem dX5_executeCommand_183 : decode cX5_executeCommand 183 = .ok (.getfield 12, 3) := by decide +kernel
theorem dX5_executeCommand_186 : decode cX5_executeCommand 186 = .ok (.invokevirtual 51, 3) := by decide +kernel
theorem dX5_executeCommand_189 : decode cX5_executeCommand 189 = .ok (.ireturn, 1) := by decide +kernel
theorem dX5_executeCommand_190 : decode cX5_executeCommand 190 = .ok (.aload_n 0, 1) := by decide +kernel
theorem dX5_executeCommand_191 : decode cX5_executeCommand 191 = .ok (.getfield 12, 3) := by decide +kernel
theorem dX5_executeCommand_194 : decode cX5_executeCommand 194 = .ok (.invokevirtual 55, 3) := by decide +kernel
theorem dX5_executeCommand_197 : decode cX5_executeCommand 197 = .ok (.ireturn, 1) := by decide +kernel
theorem dX5_executeCommand_198 : decode cX5_executeCommand 198 = .ok (.aload_n 0, 1) := by decide +kernel
theorem dX5_executeCommand_199 : decode cX5_executeCommand 199 = .ok (.getfield 12, 3) := by decide +kernel
theorem dX5_executeCommand_202 : decode cX5_executeCommand 202 = .ok (.aload_n 0, 1) := by decide +kernel
theorem dX5_executeCommand_203 : decode cX5_executeCommand 203 = .ok (.getfield 26, 3) := by decide +kernel
theorem dX5_executeCommand_206 : decode cX5_executeCommand 206 = .ok (.getfield 217, 3) := by decide +kernel
theorem dX5_executeCommand_209 : decode cX5_executeCommand 209 = .ok (.invokevirtual 61, 3) := by decide +kernel
theorem dX5_executeCommand_212 : decode cX5_executeCommand 212 = .ok (.ireturn, 1) := by decide +kernel
theorem dX5_executeCommand_213 : decode cX5_executeCommand 213 = .ok (.bipush (-2), 2) := by decide +kernel
theorem dX5_executeCommand_215 : decode cX5_executeCommand 215 = .ok (.ireturn, 1) := by decide +kernel
theorem dX5_isError_0 : decode cX5_isError 0 = .ok (.iload_n 0, 1) := by decide +kernel
theorem dX5_isError_1 : decode cX5_isError 1 = .ok (.bipush (-5), 2) := by decide +kernel
theorem dX5_isError_3 : decode cX5_isError 3 = .ok (.if_icmp .lt 12, 3) := by decide +kernel
theorem dX5_isError_6 : decode cX5_isError 6 = .ok (.iload_n 0, 1) := by decide +kernel
theorem dX5_isError_7 : decode cX5_isError 7 = .ok (.iconst (-1), 1) := by decide +kernel
theorem dX5_isError_8 : decode cX5_isError 8 = .ok (.if_icmp .gt 7, 3) := by decide +kernel
theorem dX5_isError_11 : decode cX5_isError 11 = .ok (.iconst 1, 1) := by decide +kernel
theorem dX5_isError_12 : decode cX5_isError 12 = .ok (.goto 4, 3) := by decide +kernel
theorem dX5_isError_15 : decode cX5_isError 15 = .ok (.iconst 0, 1) := by decide +kernel
theorem dX5_isError_16 : decode cX5_isError 16 = .ok (.ireturn, 1) := by decide +kernel
theorem dX5_isName_0 : decode cX5_isName 0 = .ok (.iload_n 0, 1) := by decide +kernel
theorem dX5_isName_1 : decode cX5_isName 1 = .ok (.ifCond .lt 13, 3) := by decide +kernel
theorem dX5_isName_4 : decode cX5_isName 4 = .ok (.iload_n 0, 1) := by decide +kernel
theorem dX5_isName_5 : decode cX5_isName 5 = .ok (.bipush 20, 2) := by decide +kernel
theorem dX5_isName_7 : decode cX5_isName 7 = .ok (.if_icmp .ge 7, 3) := by decide +kernel
theorem dX5_isName_10 : decode cX5_isName 10 = .ok (.iconst 1, 1) := by decide +kernel
theorem dX5_isName_11 : decode cX5_isName 11 = .ok (.goto 4, 3) := by decide +kernel
theorem dX5_isName_14 : decode cX5_isName 14 = .ok (.iconst 0, 1) := by decide +kernel
theorem dX5_isName_15 : decode cX5_isName 15 = .ok (.ireturn, 1) := by decide +kernel
theorem dX5_isSector_0 : decode cX5_isSector 0 = .ok (.iload_n 0, 1) := by decide +kernel
theorem dX5_isSector_1 : decode cX5_isSector 1 = .ok (.ifCond .lt 14, 3) := by decide +kernel
theorem dX5_isSector_4 : decode cX5_isSector 4 = .ok (.iload_n 0, 1) := by decide +kernel
theorem dX5_isSector_5 : decode cX5_isSector 5 = .ok (.sipush 240, 3) := by decide +kernel
theorem dX5_isSector_8 : decode cX5_isSector 8 = .ok (.if_icmp .ge 7, 3) := by decide +kernel
theorem dX5_isSector_11 : decode cX5_isSector 11 = .ok (.iconst 1, 1) := by decide +kernel
theorem dX5_isSector_12 : decode cX5_isSector 12 = .ok (.goto 4, 3) := by decide +kernel
theorem dX5_isSector_15 : decode cX5_isSector 15 = .ok (.iconst 0, 1) := by decide +kernel
theorem dX5_isSector_16 : decode cX5_isSector 16 = .ok (.ireturn, 1) := by decide +kernel
theorem dX5_isFileSize_0 : decode cX5_isFileSize 0 = .ok (.iload_n 0, 1) := by decide +kernel
theorem dX5_isFileSize_1 : decode cX5_isFileSize 1 = .ok (.iconst 1, 1) := by decide +kernel
theorem dX5_isFileSize_2 : decode cX5_isFileSize 2 = .ok (.if_icmp .lt 13, 3) := by decide +kernel
theorem dX5_isFileSize_5 : decode cX5_isFileSize 5 = .ok (.iload_n 0, 1) := by decide +kernel
theorem dX5_isFileSize_6 : decode cX5_isFileSize 6 = .ok (.bipush 40, 2) := by decide +kernel
theorem dX5_isFileSize_8 : decode cX5_isFileSize 8 = .ok (.if_icmp .gt 7, 3) := by decide +kernel
theorem dX5_isFileSize_11 : decode cX5_isFileSize 11 = .ok (.iconst 1, 1) := by decide +kernel
theorem dX5_isFileSize_12 : decode cX5_isFileSize 12 = .ok (.goto 4, 3) := by decide +kernel
theorem dX5_isFileSize_15 : decode cX5_isFileSize 15 = .ok (.iconst 0, 1) := by decide +kernel
theorem dX5_isFileSize_16 : decode cX5_isFileSize 16 = .ok (.ireturn, 1) := by decide +kernel
theorem dX5_isSetting_0 : decode cX5_isSetting 0 = .ok (.iload_n 0, 1) := by decide +kernel
theorem dX5_isSetting_1 : decode cX5_isSetting 1 = .ok (.ifCond .eq 8, 3) := by decide +kernel
theorem dX5_isSetting_4 : decode cX5_isSetting 4 = .ok (.iload_n 0, 1) := by decide +kernel
theorem dX5_isSetting_5 : decode cX5_isSetting 5 = .ok (.iconst 1, 1) := by decide +kernel
theorem dX5_isSetting_6 : decode cX5_isSetting 6 = .ok (.if_icmp .ne 7, 3) := by decide +kernel
theorem dX5_isSetting_9 : decode cX5_isSetting 9 = .ok (.iconst 1, 1) := by decide +kernel
theorem dX5_isSetting_10 : decode cX5_isSetting 10 = .ok (.goto 4, 3) := by decide +kernel
theorem dX5_isSetting_13 : decode cX5_isSetting 13 = .ok (.iconst 0, 1) := by decide +kernel
theorem dX5_isSetting_14 : decode cX5_isSetting 14 = .ok (.ireturn, 1) := by decide +kernel
theorem dX6_init_0 : decode cX6_init 0 = .ok (.aload_n 0, 1) := by decide +kernel
theorem dX6_init_1 : decode cX6_init 1 = .ok (.invokespecial 1, 3) := by decide +kernel
theorem dX6_init_4 : decode cX6_init 4 = .ok (.aload_n 0, 1) := by decide +kernel
theorem dX6_init_5 : decode cX6_init 5 = .ok (.sipush 344, 3) := by decide +kernel
theorem dX6_init_8 : decode cX6_init 8 = .ok (.newarray .int, 2) := by decide +kernel
theorem dX6_init_10 : decode cX6_init 10 = .ok (.putfield 7, 3) := by decide +kernel
theorem dX6_init_13 : decode cX6_init 13 = .ok (.aload_n 0, 1) := by decide +kernel
theorem dX6_init_14 : decode cX6_init 14 = .ok (.sipush 344, 3) := by decide +kernel
theorem dX6_init_17 : decode cX6_init 17 = .ok (.newarray .int, 2) := by decide +kernel
theorem dX6_init_19 : decode cX6_init 19 = .ok (.putfield 13, 3) := by decide +kernel
theorem dX6_init_22 : decode cX6_init 22 = .ok (.aload_n 0, 1) := by decide +kernel
theorem dX6_init_23 : decode cX6_init 23 = .ok (.sipush 1376, 3) := by decide +kernel
theorem dX6_init_26 : decode cX6_init 26 = .ok (.newarray .int, 2) := by decide +kernel
theorem dX6_init_28 : decode cX6_init 28 = .ok (.putfield 16, 3) := by decide +kernel
theorem dX6_init_31 : decode cX6_init 31 = .ok (.aload_n 0, 1) := by decide +kernel
theorem dX6_init_32 : decode cX6_init 32 = .ok (.bipush 80, 2) := by decide +kernel
theorem dX6_init_34 : decode cX6_init 34 = .ok (.newarray .int, 2) := by decide +kernel
theorem dX6_init_36 : decode cX6_init 36 = .ok (.putfield 19, 3) := by decide +kernel
theorem dX6_init_39 : decode cX6_init 39 = .ok (.aload_n 0, 1) := by decide +kernel
theorem dX6_init_40 : decode cX6_init 40 = .ok (.getfield 7, 3) := by decide +kernel
theorem dX6_init_43 : decode cX6_init 43 = .ok (.iconst 2, 1) := by decide +kernel
theorem dX6_init_44 : decode cX6_init 44 = .ok (.iconst 4, 1) := by decide +kernel
theorem dX6_init_45 : decode cX6_init 45 = .ok (.iastore, 1) := by decide +kernel
theorem dX6_init_46 : decode cX6_init 46 = .ok (.aload_n 0, 1) := by decide +kernel
theorem dX6_init_47 : decode cX6_init 47 = .ok (.getfield 7, 3) := by decide +kernel
theorem dX6_init_50 : decode cX6_init 50 = .ok (.iconst 3, 1) := by decide +kernel
theorem dX6_init_51 : decode cX6_init 51 = .ok (.iconst 3, 1) := by decide +kernel
theorem dX6_init_52 : decode cX6_init 52 = .ok (.iastore, 1) := by decide +kernel
theorem dX6_init_53 : decode cX6_init 53 = .ok (.return_, 1) := by decide +kernel
theorem dX6_in_0 : decode cX6_in 0 = .ok (.iload_n 0, 1) := by decide +kernel
theorem dX6_in_1 : decode cX6_in 1 = .ok (.iload_n 1, 1) := by decide +kernel
theorem dX6_in_2 : decode cX6_in 2 = .ok (.if_icmp .lt 12, 3) := by decide +kernel
theorem dX6_in_5 : decode cX6_in 5 = .ok (.iload_n 0, 1) := by decide +kernel
theorem dX6_in_6 : decode cX6_in 6 = .ok (.iload_n 2, 1) := by decide +kernel
theorem dX6_in_7 : decode cX6_in 7 = .ok (.if_icmp .gt 7, 3) := by decide +kernel
theorem dX6_in_10 : decode cX6_in 10 = .ok (.iconst 1, 1) := by decide +kernel
theorem dX6_in_11 : decode cX6_in 11 = .ok (.goto 4, 3) := by decide +kernel
theorem dX6_in_14 : decode cX6_in 14 = .ok (.iconst 0, 1) := by decide +kernel
theorem dX6_in_15 : decode cX6_in 15 = .ok (.ireturn, 1) := by decide +kernel
theorem dX6_copies_0 : decode cX6_copies 0 = .ok (.iconst 0, 1) := by decide +kernel
theorem dX6_copies_1 : decode cX6_copies 1 = .ok (.istore 4, 2) := by decide +kernel
theorem dX6_copies_3 : decode cX6_copies 3 = .ok (.iload 4, 2) := by decide +kernel
theorem dX6_copies_5 : decode cX6_copies 5 = .ok (.sipush 344, 3) := by decide +kernel
theorem dX6_copies_8 : decode cX6_copies 8 = .ok (.if_icmp .ge 21, 3) := by decide +kernel
theorem dX6_copies_11 : decode cX6_copies 11 = .ok (.aload_n 2, 1) := by decide +kernel
theorem dX6_copies_12 : decode cX6_copies 12 = .ok (.iload_n 3, 1) := by decide +kernel
theorem dX6_copies_13 : decode cX6_copies 13 = .ok (.iload 4, 2) := by decide +kernel
theorem dX6_copies_15 : decode cX6_copies 15 = .ok (.iadd, 1) := by decide +kernel
theorem dX6_copies_16 : decode cX6_copies 16 = .ok (.aload_n 0, 1) := by decide +kernel
theorem dX6_copies_17 : decode cX6_copies 17 = .ok (.iload_n 1, 1) := by decide +kernel
theorem dX6_copies_18 : decode cX6_copies 18 = .ok (.iload 4, 2) := by decide +kernel
theorem dX6_copies_20 : decode cX6_copies 20 = .ok (.iadd, 1) := by decide +kernel
theorem dX6_copies_21 : decode cX6_copies 21 = .ok (.iaload, 1) := by decide +kernel
theorem dX6_copies_22 : decode cX6_copies 22 = .ok (.iastore, 1) := by decide +kernel
theorem dX6_copies_23 : decode cX6_copies 23 = .ok (.iinc 4 1, 3) := by decide +kernel
theorem dX6_copies_26 : decode cX6_copies 26 = .ok (.goto (-23), 3) := by decide +kernel
theorem dX6_copies_29 : decode cX6_copies 29 = .ok (.return_, 1) := by decide +kernel
theorem dX6_begins_0 : decode cX6_begins 0 = .ok (.aload_n 0, 1) := by decide +kernel
theorem dX6_begins_1 : decode cX6_begins 1 = .ok (.getfield 7, 3) := by decide +kernel
theorem dX6_begins_4 : decode cX6_begins 4 = .ok (.iconst 0, 1) := by decide +kernel
theorem dX6_begins_5 : decode cX6_begins 5 = .ok (.aload_n 0, 1) := by decide +kernel
theorem dX6_begins_6 : decode cX6_begins 6 = .ok (.getfield 13, 3) := by decide +kernel
theorem dX6_begins_9 : decode cX6_begins 9 = .ok (.iconst 0, 1) := by decide +kernel
theorem dX6_begins_10 : decode cX6_begins 10 = .ok (.invokestatic 22, 3) := by decide +kernel
theorem dX6_begins_13 : decode cX6_begins 13 = .ok (.return_, 1) := by decide +kernel
theorem dX6_records_0 : decode cX6_records 0 = .ok (.iload_n 1, 1) := by decide +kernel
theorem dX6_records_1 : decode cX6_records 1 = .ok (.ifCond .ge 5, 3) := by decide +kernel
theorem dX6_records_4 : decode cX6_records 4 = .ok (.iload_n 1, 1) := by decide +kernel
theorem dX6_records_5 : decode cX6_records 5 = .ok (.ireturn, 1) := by decide +kernel
theorem dX6_records_6 : decode cX6_records 6 = .ok (.aload_n 0, 1) := by decide +kernel
theorem dX6_records_7 : decode cX6_records 7 = .ok (.getfield 26, 3) := by decide +kernel
theorem dX6_records_10 : decode cX6_records 10 = .ok (.iconst 4, 1) := by decide +kernel
theorem dX6_records_11 : decode cX6_records 11 = .ok (.if_icmp .ne 44, 3) := by decide +kernel
theorem dX6_records_14 : decode cX6_records 14 = .ok (.iconst 0, 1) := by decide +kernel
theorem dX6_records_15 : decode cX6_records 15 = .ok (.istore_n 2, 1) := by decide +kernel
theorem dX6_records_16 : decode cX6_records 16 = .ok (.iload_n 2, 1) := by decide +kernel
theorem dX6_records_17 : decode cX6_records 17 = .ok (.sipush 1032, 3) := by decide +kernel
theorem dX6_records_20 : decode cX6_records 20 = .ok (.if_icmp .ge 25, 3) := by decide +kernel
theorem dX6_records_23 : decode cX6_records 23 = .ok (.aload_n 0, 1) := by decide +kernel
theorem dX6_records_24 : decode cX6_records 24 = .ok (.getfield 16, 3) := by decide +kernel
theorem dX6_records_27 : decode cX6_records 27 = .ok (.iload_n 2, 1) := by decide +kernel
theorem dX6_records_28 : decode cX6_records 28 = .ok (.aload_n 0, 1) := by decide +kernel
theorem dX6_records_29 : decode cX6_records 29 = .ok (.getfield 16, 3) := by decide +kernel
theorem dX6_records_32 : decode cX6_records 32 = .ok (.iload_n 2, 1) := by decide +kernel
theorem dX6_records_33 : decode cX6_records 33 = .ok (.sipush 344, 3) := by decide +kernel
theorem dX6_records_36 : decode cX6_records 36 = .ok (.iadd, 1) := by decide +kernel
theorem dX6_records_37 : decode cX6_records 37 = .ok (.iaload, 1) := by decide +kernel
theorem dX6_records_38 : decode cX6_records 38 = .ok (.iastore, 1) := by decide +kernel
theorem dX6_records_39 : decode cX6_records 39 = .ok (.iinc 2 1, 3) := by decide +kernel
theorem dX6_records_42 : decode cX6_records 42 = .ok (.goto (-26), 3) := by decide +kernel
theorem dX6_records_45 : decode cX6_records 45 = .ok (.aload_n 0, 1) := by decide +kernel
theorem dX6_records_46 : decode cX6_records 46 = .ok (.dup, 1) := by decide +kernel
theorem dX6_records_47 : decode cX6_records 47 = .ok (.getfield 26, 3) := by decide +kernel
theorem dX6_records_50 : decode cX6_records 50 = .ok (.iconst 1, 1) := by decide +kernel
theorem dX6_records_51 : decode cX6_records 51 = .ok (.isub, 1) := by decide +kernel
theorem dX6_records_52 : decode cX6_records 52 = .ok (.putfield 26, 3) := by decide +kernel
theorem dX6_records_55 : decode cX6_records 55 = .ok (.aload_n 0, 1) := by decide +kernel
theorem dX6_records_56 : decode cX6_records 56 = .ok (.getfield 13, 3) := by decide +kernel
theorem dX6_records_59 : decode cX6_records 59 = .ok (.iconst 0, 1) := by decide +kernel
theorem dX6_records_60 : decode cX6_records 60 = .ok (.aload_n 0, 1) := by decide +kernel
theorem dX6_records_61 : decode cX6_records 61 = .ok (.getfield 16, 3) := by decide +kernel
theorem dX6_records_64 : decode cX6_records 64 = .ok (.sipush 344, 3) := by decide +kernel
theorem dX6_records_67 : decode cX6_records 67 = .ok (.aload_n 0, 1) := by decide +kernel
theorem dX6_records_68 : decode cX6_records 68 = .ok (.getfield 26, 3) := by decide +kernel
theorem dX6_records_71 : decode cX6_records 71 = .ok (.imul, 1) := by decide +kernel
theorem dX6_records_72 : decode cX6_records 72 = .ok (.invokestatic 22, 3) := by decide +kernel
theorem dX6_records_75 : decode cX6_records 75 = .ok (.aload_n 0, 1) := by decide +kernel
theorem dX6_records_76 : decode cX6_records 76 = .ok (.dup, 1) := by decide +kernel
theorem dX6_records_77 : decode cX6_records 77 = .ok (.getfield 26, 3) := by decide +kernel
theorem dX6_records_80 : decode cX6_records 80 = .ok (.iconst 1, 1) := by decide +kernel
theorem dX6_records_81 : decode cX6_records 81 = .ok (.iadd, 1) := by decide +kernel
theorem dX6_records_82 : decode cX6_records 82 = .ok (.putfield 26, 3) := by decide +kernel
theorem dX6_records_85 : decode cX6_records 85 = .ok (.iload_n 1, 1) := by decide +kernel
theorem dX6_records_86 : decode cX6_records 86 = .ok (.ireturn, 1) := by decide +kernel
theorem dX6_isName_0 : decode cX6_isName 0 = .ok (.iload_n 0, 1) := by decide +kernel
theorem dX6_isName_1 : decode cX6_isName 1 = .ok (.iconst 0, 1) := by decide +kernel
theorem dX6_isName_2 : decode cX6_isName 2 = .ok (.bipush 19, 2) := by decide +kernel
theorem dX6_isName_4 : decode cX6_isName 4 = .ok (.invokestatic 30, 3) := by decide +kernel
theorem dX6_isName_7 : decode cX6_isName 7 = .ok (.ireturn, 1) := by decide +kernel
theorem dX6_isSector_0 : decode cX6_isSector 0 = .ok (.iload_n 0, 1) := by decide +kernel
theorem dX6_isSector_1 : decode cX6_isSector 1 = .ok (.iconst 0, 1) := by decide +kernel
theorem dX6_isSector_2 : decode cX6_isSector 2 = .ok (.sipush 239, 3) := by decide +kernel
theorem dX6_isSector_5 : decode cX6_isSector 5 = .ok (.invokestatic 30, 3) := by decide +kernel
theorem dX6_isSector_8 : decode cX6_isSector 8 = .ok (.ireturn, 1) := by decide +kernel
theorem dX6_isSession_0 : decode cX6_isSession 0 = .ok (.iload_n 1, 1) := by decide +kernel
theorem dX6_isSession_1 : decode cX6_isSession 1 = .ok (.iconst 0, 1) := by decide +kernel
theorem dX6_isSession_2 : decode cX6_isSession 2 = .ok (.aload_n 0, 1) := by decide +kernel
theorem dX6_isSession_3 : decode cX6_isSession 3 = .ok (.getfield 7, 3) := by decide +kernel
theorem dX6_isSession_6 : decode cX6_isSession 6 = .ok (.iconst 1, 1) := by decide +kernel
theorem dX6_isSession_7 : decode cX6_isSession 7 = .ok (.iaload, 1) := by decide +kernel
theorem dX6_isSession_8 : decode cX6_isSession 8 = .ok (.iconst 1, 1) := by decide +kernel
theorem dX6_isSession_9 : decode cX6_isSession 9 = .ok (.isub, 1) := by decide +kernel
theorem dX6_isSession_10 : decode cX6_isSession 10 = .ok (.invokestatic 30, 3) := by decide +kernel
theorem dX6_isSession_13 : decode cX6_isSession 13 = .ok (.ireturn, 1) := by decide +kernel
theorem dX6_of_0 : decode cX6_of 0 = .ok (.aload_n 0, 1) := by decide +kernel
theorem dX6_of_1 : decode cX6_of 1 = .ok (.getfield 7, 3) := by decide +kernel
theorem dX6_of_4 : decode cX6_of 4 = .ok (.bipush 32, 2) := by decide +kernel
theorem dX6_of_6 : decode cX6_of 6 = .ok (.bipush 6, 2) := by decide +kernel
theorem dX6_of_8 : decode cX6_of 8 = .ok (.iload_n 1, 1) := by decide +kernel
theorem dX6_of_9 : decode cX6_of 9 = .ok (.imul, 1) := by decide +kernel
theorem dX6_of_10 : decode cX6_of 10 = .ok (.iadd, 1) := by decide +kernel
theorem dX6_of_11 : decode cX6_of 11 = .ok (.iload_n 2, 1) := by decide +kernel
theorem dX6_of_12 : decode cX6_of 12 = .ok (.iadd, 1) := by decide +kernel
theorem dX6_of_13 : decode cX6_of 13 = .ok (.iaload, 1) := by decide +kernel
theorem dX6_of_14 : decode cX6_of 14 = .ok (.ireturn, 1) := by decide +kernel
theorem dX6_lays_0 : decode cX6_lays 0 = .ok (.aload_n 0, 1) := by decide +kernel
theorem dX6_lays_1 : decode cX6_lays 1 = .ok (.getfield 7, 3) := by decide +kernel
theorem dX6_lays_4 : decode cX6_lays 4 = .ok (.bipush 32, 2) := by decide +kernel
theorem dX6_lays_6 : decode cX6_lays 6 = .ok (.bipush 6, 2) := by decide +kernel
theorem dX6_lays_8 : decode cX6_lays 8 = .ok (.iload_n 1, 1) := by decide +kernel
theorem dX6_lays_9 : decode cX6_lays 9 = .ok (.imul, 1) := by decide +kernel
theorem dX6_lays_10 : decode cX6_lays 10 = .ok (.iadd, 1) := by decide +kernel
theorem dX6_lays_11 : decode cX6_lays 11 = .ok (.iload_n 2, 1) := by decide +kernel
theorem dX6_lays_12 : decode cX6_lays 12 = .ok (.iadd, 1) := by decide +kernel
theorem dX6_lays_13 : decode cX6_lays 13 = .ok (.iload_n 3, 1) := by decide +kernel
theorem dX6_lays_14 : decode cX6_lays 14 = .ok (.iastore, 1) := by decide +kernel
theorem dX6_lays_15 : decode cX6_lays 15 = .ok (.return_, 1) := by decide +kernel
theorem dX6_openOne_0 : decode cX6_openOne 0 = .ok (.aload_n 0, 1) := by decide +kernel
theorem dX6_openOne_1 : decode cX6_openOne 1 = .ok (.getfield 7, 3) := by decide +kernel
theorem dX6_openOne_4 : decode cX6_openOne 4 = .ok (.iconst 1, 1) := by decide +kernel
theorem dX6_openOne_5 : decode cX6_openOne 5 = .ok (.iaload, 1) := by decide +kernel
theorem dX6_openOne_6 : decode cX6_openOne 6 = .ok (.iconst 1, 1) := by decide +kernel
theorem dX6_openOne_7 : decode cX6_openOne 7 = .ok (.isub, 1) := by decide +kernel
theorem dX6_openOne_8 : decode cX6_openOne 8 = .ok (.istore_n 1, 1) := by decide +kernel
theorem dX6_openOne_9 : decode cX6_openOne 9 = .ok (.iload_n 1, 1) := by decide +kernel
theorem dX6_openOne_10 : decode cX6_openOne 10 = .ok (.ifCond .lt 16, 3) := by decide +kernel
theorem dX6_openOne_13 : decode cX6_openOne 13 = .ok (.aload_n 0, 1) := by decide +kernel
theorem dX6_openOne_14 : decode cX6_openOne 14 = .ok (.iload_n 1, 1) := by decide +kernel
theorem dX6_openOne_15 : decode cX6_openOne 15 = .ok (.iconst 0, 1) := by decide +kernel
theorem dX6_openOne_16 : decode cX6_openOne 16 = .ok (.invokevirtual 34, 3) := by decide +kernel
theorem dX6_openOne_19 : decode cX6_openOne 19 = .ok (.ifCond .ne 7, 3) := by decide +kernel
theorem dX6_openOne_22 : decode cX6_openOne 22 = .ok (.iload_n 1, 1) := by decide +kernel
theorem dX6_openOne_23 : decode cX6_openOne 23 = .ok (.goto 5, 3) := by decide +kernel
theorem dX6_openOne_26 : decode cX6_openOne 26 = .ok (.bipush (-6), 2) := by decide +kernel
theorem dX6_openOne_28 : decode cX6_openOne 28 = .ok (.ireturn, 1) := by decide +kernel
theorem dX6_entryOf_0 : decode cX6_entryOf 0 = .ok (.aload_n 0, 1) := by decide +kernel
theorem dX6_entryOf_1 : decode cX6_entryOf 1 = .ok (.getfield 7, 3) := by decide +kernel
theorem dX6_entryOf_4 : decode cX6_entryOf 4 = .ok (.bipush 104, 2) := by decide +kernel
theorem dX6_entryOf_6 : decode cX6_entryOf 6 = .ok (.bipush 20, 2) := by decide +kernel
theorem dX6_entryOf_8 : decode cX6_entryOf 8 = .ok (.iload_n 1, 1) := by decide +kernel
theorem dX6_entryOf_9 : decode cX6_entryOf 9 = .ok (.imul, 1) := by decide +kernel
theorem dX6_entryOf_10 : decode cX6_entryOf 10 = .ok (.iadd, 1) := by decide +kernel
theorem dX6_entryOf_11 : decode cX6_entryOf 11 = .ok (.iload_n 2, 1) := by decide +kernel
theorem dX6_entryOf_12 : decode cX6_entryOf 12 = .ok (.iadd, 1) := by decide +kernel
theorem dX6_entryOf_13 : decode cX6_entryOf 13 = .ok (.iaload, 1) := by decide +kernel
theorem dX6_entryOf_14 : decode cX6_entryOf 14 = .ok (.ireturn, 1) := by decide +kernel
theorem dX6_firstOf_0 : decode cX6_firstOf 0 = .ok (.iload_n 0, 1) := by decide +kernel
theorem dX6_firstOf_1 : decode cX6_firstOf 1 = .ok (.bipush 64, 2) := by decide +kernel
theorem dX6_firstOf_3 : decode cX6_firstOf 3 = .ok (.idiv, 1) := by decide +kernel
theorem dX6_firstOf_4 : decode cX6_firstOf 4 = .ok (.iconst 1, 1) := by decide +kernel
theorem dX6_firstOf_5 : decode cX6_firstOf 5 = .ok (.isub, 1) := by decide +kernel
theorem dX6_firstOf_6 : decode cX6_firstOf 6 = .ok (.ireturn, 1) := by decide +kernel
theorem dX6_sizeOf_0 : decode cX6_sizeOf 0 = .ok (.iload_n 0, 1) := by decide +kernel
theorem dX6_sizeOf_1 : decode cX6_sizeOf 1 = .ok (.bipush 64, 2) := by decide +kernel
theorem dX6_sizeOf_3 : decode cX6_sizeOf 3 = .ok (.irem, 1) := by decide +kernel
theorem dX6_sizeOf_4 : decode cX6_sizeOf 4 = .ok (.ireturn, 1) := by decide +kernel
theorem dX6_entries_0 : decode cX6_entries 0 = .ok (.iconst 0, 1) := by decide +kernel
theorem dX6_entries_1 : decode cX6_entries 1 = .ok (.istore_n 2, 1) := by decide +kernel
theorem dX6_entries_2 : decode cX6_entries 2 = .ok (.iconst 0, 1) := by decide +kernel
theorem dX6_entries_3 : decode cX6_entries 3 = .ok (.istore_n 3, 1) := by decide +kernel
theorem dX6_entries_4 : decode cX6_entries 4 = .ok (.iload_n 3, 1) := by decide +kernel
theorem dX6_entries_5 : decode cX6_entries 5 = .ok (.bipush 20, 2) := by decide +kernel
theorem dX6_entries_7 : decode cX6_entries 7 = .ok (.if_icmp .ge 26, 3) := by decide +kernel
theorem dX6_entries_10 : decode cX6_entries 10 = .ok (.iload_n 2, 1) := by decide +kernel
theorem dX6_entries_11 : decode cX6_entries 11 = .ok (.aload_n 0, 1) := by decide +kernel
theorem dX6_entries_12 : decode cX6_entries 12 = .ok (.iload_n 1, 1) := by decide +kernel
theorem dX6_entries_13 : decode cX6_entries 13 = .ok (.iload_n 3, 1) := by decide +kernel
theorem dX6_entries_14 : decode cX6_entries 14 = .ok (.invokevirtual 38, 3) := by decide +kernel
theorem dX6_entries_17 : decode cX6_entries 17 = .ok (.ifCond .le 7, 3) := by decide +kernel
theorem dX6_entries_20 : decode cX6_entries 20 = .ok (.iconst 1, 1) := by decide +kernel
theorem dX6_entries_21 : decode cX6_entries 21 = .ok (.goto 4, 3) := by decide +kernel
theorem dX6_entries_24 : decode cX6_entries 24 = .ok (.iconst 0, 1) := by decide +kernel
theorem dX6_entries_25 : decode cX6_entries 25 = .ok (.iadd, 1) := by decide +kernel
theorem dX6_entries_26 : decode cX6_entries 26 = .ok (.istore_n 2, 1) := by decide +kernel
theorem dX6_entries_27 : decode cX6_entries 27 = .ok (.iinc 3 1, 3) := by decide +kernel
theorem dX6_entries_30 : decode cX6_entries 30 = .ok (.goto (-26), 3) := by decide +kernel
theorem dX6_entries_33 : decode cX6_entries 33 = .ok (.iload_n 2, 1) := by decide +kernel
theorem dX6_entries_34 : decode cX6_entries 34 = .ok (.ireturn, 1) := by decide +kernel
theorem dX6_isHurt_0 : decode cX6_isHurt 0 = .ok (.aload_n 0, 1) := by decide +kernel
theorem dX6_isHurt_1 : decode cX6_isHurt 1 = .ok (.getfield 7, 3) := by decide +kernel
theorem dX6_isHurt_4 : decode cX6_isHurt 4 = .ok (.iconst 4, 1) := by decide +kernel
theorem dX6_isHurt_5 : decode cX6_isHurt 5 = .ok (.iload_n 1, 1) := by decide +kernel
theorem dX6_isHurt_6 : decode cX6_isHurt 6 = .ok (.bipush 30, 2) := by decide +kernel
theorem dX6_isHurt_8 : decode cX6_isHurt 8 = .ok (.idiv, 1) := by decide +kernel
theorem dX6_isHurt_9 : decode cX6_isHurt 9 = .ok (.iadd, 1) := by decide +kernel
theorem dX6_isHurt_10 : decode cX6_isHurt 10 = .ok (.iaload, 1) := by decide +kernel
theorem dX6_isHurt_11 : decode cX6_isHurt 11 = .ok (.iload_n 1, 1) := by decide +kernel
theorem dX6_isHurt_12 : decode cX6_isHurt 12 = .ok (.bipush 30, 2) := by decide +kernel
theorem dX6_isHurt_14 : decode cX6_isHurt 14 = .ok (.irem, 1) := by decide +kernel
theorem dX6_isHurt_15 : decode cX6_isHurt 15 = .ok (.ishr, 1) := by decide +kernel
theorem dX6_isHurt_16 : decode cX6_isHurt 16 = .ok (.iconst 1, 1) := by decide +kernel
theorem dX6_isHurt_17 : decode cX6_isHurt 17 = .ok (.iand, 1) := by decide +kernel
theorem dX6_isHurt_18 : decode cX6_isHurt 18 = .ok (.iconst 1, 1) := by decide +kernel
theorem dX6_isHurt_19 : decode cX6_isHurt 19 = .ok (.if_icmp .ne 7, 3) := by decide +kernel
theorem dX6_isHurt_22 : decode cX6_isHurt 22 = .ok (.iconst 1, 1) := by decide +kernel
theorem dX6_isHurt_23 : decode cX6_isHurt 23 = .ok (.goto 4, 3) := by decide +kernel
theorem dX6_isHurt_26 : decode cX6_isHurt 26 = .ok (.iconst 0, 1) := by decide +kernel
theorem dX6_isHurt_27 : decode cX6_isHurt 27 = .ok (.ireturn, 1) := by decide +kernel
theorem dX6_isWhole_0 : decode cX6_isWhole 0 = .ok (.iconst 1, 1) := by decide +kernel
theorem dX6_isWhole_1 : decode cX6_isWhole 1 = .ok (.istore_n 3, 1) := by decide +kernel
theorem dX6_isWhole_2 : decode cX6_isWhole 2 = .ok (.iload_n 1, 1) := by decide +kernel
theorem dX6_isWhole_3 : decode cX6_isWhole 3 = .ok (.istore 4, 2) := by decide +kernel
theorem dX6_isWhole_5 : decode cX6_isWhole 5 = .ok (.iload 4, 2) := by decide +kernel
theorem dX6_isWhole_7 : decode cX6_isWhole 7 = .ok (.iload_n 1, 1) := by decide +kernel
theorem dX6_isWhole_8 : decode cX6_isWhole 8 = .ok (.iload_n 2, 1) := by decide +kernel
theorem dX6_isWhole_9 : decode cX6_isWhole 9 = .ok (.iadd, 1) := by decide +kernel
theorem dX6_isWhole_10 : decode cX6_isWhole 10 = .ok (.if_icmp .ge 28, 3) := by decide +kernel
theorem dX6_isWhole_13 : decode cX6_isWhole 13 = .ok (.iload_n 3, 1) := by decide +kernel
theorem dX6_isWhole_14 : decode cX6_isWhole 14 = .ok (.ifCond .eq 16, 3) := by decide +kernel
theorem dX6_isWhole_17 : decode cX6_isWhole 17 = .ok (.aload_n 0, 1) := by decide +kernel
theorem dX6_isWhole_18 : decode cX6_isWhole 18 = .ok (.iload 4, 2) := by decide +kernel
theorem dX6_isWhole_20 : decode cX6_isWhole 20 = .ok (.invokevirtual 41, 3) := by decide +kernel
theorem dX6_isWhole_23 : decode cX6_isWhole 23 = .ok (.ifCond .ne 7, 3) := by decide +kernel
theorem dX6_isWhole_26 : decode cX6_isWhole 26 = .ok (.iconst 1, 1) := by decide +kernel
theorem dX6_isWhole_27 : decode cX6_isWhole 27 = .ok (.goto 4, 3) := by decide +kernel
theorem dX6_isWhole_30 : decode cX6_isWhole 30 = .ok (.iconst 0, 1) := by decide +kernel
theorem dX6_isWhole_31 : decode cX6_isWhole 31 = .ok (.istore_n 3, 1) := by decide +kernel
theorem dX6_isWhole_32 : decode cX6_isWhole 32 = .ok (.iinc 4 1, 3) := by decide +kernel
theorem dX6_isWhole_35 : decode cX6_isWhole 35 = .ok (.goto (-30), 3) := by decide +kernel
theorem dX6_isWhole_38 : decode cX6_isWhole 38 = .ok (.iload_n 3, 1) := by decide +kernel
theorem dX6_isWhole_39 : decode cX6_isWhole 39 = .ok (.ireturn, 1) := by decide +kernel
theorem dX6_isReadable_0 : decode cX6_isReadable 0 = .ok (.aload_n 0, 1) := by decide +kernel
theorem dX6_isReadable_1 : decode cX6_isReadable 1 = .ok (.iload_n 1, 1) := by decide +kernel
theorem dX6_isReadable_2 : decode cX6_isReadable 2 = .ok (.iconst 0, 1) := by decide +kernel
theorem dX6_isReadable_3 : decode cX6_isReadable 3 = .ok (.invokevirtual 34, 3) := by decide +kernel
theorem dX6_isReadable_6 : decode cX6_isReadable 6 = .ok (.iconst 1, 1) := by decide +kernel
theorem dX6_isReadable_7 : decode cX6_isReadable 7 = .ok (.if_icmp .ne 26, 3) := by decide +kernel
theorem dX6_isReadable_10 : decode cX6_isReadable 10 = .ok (.aload_n 0, 1) := by decide +kernel
theorem dX6_isReadable_11 : decode cX6_isReadable 11 = .ok (.aload_n 0, 1) := by decide +kernel
theorem dX6_isReadable_12 : decode cX6_isReadable 12 = .ok (.iload_n 1, 1) := by decide +kernel
theorem dX6_isReadable_13 : decode cX6_isReadable 13 = .ok (.iconst 1, 1) := by decide +kernel
theorem dX6_isReadable_14 : decode cX6_isReadable 14 = .ok (.invokevirtual 34, 3) := by decide +kernel
theorem dX6_isReadable_17 : decode cX6_isReadable 17 = .ok (.aload_n 0, 1) := by decide +kernel
theorem dX6_isReadable_18 : decode cX6_isReadable 18 = .ok (.iload_n 1, 1) := by decide +kernel
theorem dX6_isReadable_19 : decode cX6_isReadable 19 = .ok (.iconst 3, 1) := by decide +kernel
theorem dX6_isReadable_20 : decode cX6_isReadable 20 = .ok (.invokevirtual 34, 3) := by decide +kernel
theorem dX6_isReadable_23 : decode cX6_isReadable 23 = .ok (.invokevirtual 45, 3) := by decide +kernel
theorem dX6_isReadable_26 : decode cX6_isReadable 26 = .ok (.ifCond .eq 7, 3) := by decide +kernel
theorem dX6_isReadable_29 : decode cX6_isReadable 29 = .ok (.iconst 1, 1) := by decide +kernel
theorem dX6_isReadable_30 : decode cX6_isReadable 30 = .ok (.goto 4, 3) := by decide +kernel
theorem dX6_isReadable_33 : decode cX6_isReadable 33 = .ok (.iconst 0, 1) := by decide +kernel
theorem dX6_isReadable_34 : decode cX6_isReadable 34 = .ok (.ireturn, 1) := by decide +kernel
theorem dX6_validOne_0 : decode cX6_validOne 0 = .ok (.aload_n 0, 1) := by decide +kernel
theorem dX6_validOne_1 : decode cX6_validOne 1 = .ok (.getfield 7, 3) := by decide +kernel
theorem dX6_validOne_4 : decode cX6_validOne 4 = .ok (.iconst 1, 1) := by decide +kernel
theorem dX6_validOne_5 : decode cX6_validOne 5 = .ok (.iaload, 1) := by decide +kernel
theorem dX6_validOne_6 : decode cX6_validOne 6 = .ok (.iconst 1, 1) := by decide +kernel
theorem dX6_validOne_7 : decode cX6_validOne 7 = .ok (.isub, 1) := by decide +kernel
theorem dX6_validOne_8 : decode cX6_validOne 8 = .ok (.istore_n 1, 1) := by decide +kernel
theorem dX6_validOne_9 : decode cX6_validOne 9 = .ok (.iload_n 1, 1) := by decide +kernel
theorem dX6_validOne_10 : decode cX6_validOne 10 = .ok (.ifCond .lt 17, 3) := by decide +kernel
theorem dX6_validOne_13 : decode cX6_validOne 13 = .ok (.aload_n 0, 1) := by decide +kernel
theorem dX6_validOne_14 : decode cX6_validOne 14 = .ok (.iload_n 1, 1) := by decide +kernel
theorem dX6_validOne_15 : decode cX6_validOne 15 = .ok (.invokevirtual 49, 3) := by decide +kernel
theorem dX6_validOne_18 : decode cX6_validOne 18 = .ok (.ifCond .ne 9, 3) := by decide +kernel
theorem dX6_validOne_21 : decode cX6_validOne 21 = .ok (.iinc 1 (-1), 3) := by decide +kernel
theorem dX6_validOne_24 : decode cX6_validOne 24 = .ok (.goto (-15), 3) := by decide +kernel
theorem dX6_validOne_27 : decode cX6_validOne 27 = .ok (.iload_n 1, 1) := by decide +kernel
theorem dX6_validOne_28 : decode cX6_validOne 28 = .ok (.ifCond .ge 8, 3) := by decide +kernel
theorem dX6_validOne_31 : decode cX6_validOne 31 = .ok (.bipush (-6), 2) := by decide +kernel
theorem dX6_validOne_33 : decode cX6_validOne 33 = .ok (.goto 4, 3) := by decide +kernel
theorem dX6_validOne_36 : decode cX6_validOne 36 = .ok (.iload_n 1, 1) := by decide +kernel
theorem dX6_validOne_37 : decode cX6_validOne 37 = .ok (.ireturn, 1) := by decide +kernel
theorem dX6_isIntact_0 : decode cX6_isIntact 0 = .ok (.aload_n 0, 1) := by decide +kernel
theorem dX6_isIntact_1 : decode cX6_isIntact 1 = .ok (.iload_n 1, 1) := by decide +kernel
theorem dX6_isIntact_2 : decode cX6_isIntact 2 = .ok (.invokestatic 52, 3) := by decide +kernel
theorem dX6_isIntact_5 : decode cX6_isIntact 5 = .ok (.iload_n 1, 1) := by decide +kernel
theorem dX6_isIntact_6 : decode cX6_isIntact 6 = .ok (.invokestatic 56, 3) := by decide +kernel
theorem dX6_isIntact_9 : decode cX6_isIntact 9 = .ok (.invokevirtual 45, 3) := by decide +kernel
theorem dX6_isIntact_12 : decode cX6_isIntact 12 = .ok (.ireturn, 1) := by decide +kernel
theorem dX6_sessionAt_0 : decode cX6_sessionAt 0 = .ok (.bipush (-6), 2) := by decide +kernel
theorem dX6_sessionAt_2 : decode cX6_sessionAt 2 = .ok (.istore_n 2, 1) := by decide +kernel
theorem dX6_sessionAt_3 : decode cX6_sessionAt 3 = .ok (.iconst 0, 1) := by decide +kernel
theorem dX6_sessionAt_4 : decode cX6_sessionAt 4 = .ok (.istore_n 3, 1) := by decide +kernel
theorem dX6_sessionAt_5 : decode cX6_sessionAt 5 = .ok (.iload_n 3, 1) := by decide +kernel
theorem dX6_sessionAt_6 : decode cX6_sessionAt 6 = .ok (.aload_n 0, 1) := by decide +kernel
theorem dX6_sessionAt_7 : decode cX6_sessionAt 7 = .ok (.getfield 7, 3) := by decide +kernel
theorem dX6_sessionAt_10 : decode cX6_sessionAt 10 = .ok (.iconst 1, 1) := by decide +kernel
theorem dX6_sessionAt_11 : decode cX6_sessionAt 11 = .ok (.iaload, 1) := by decide +kernel
theorem dX6_sessionAt_12 : decode cX6_sessionAt 12 = .ok (.if_icmp .ge 43, 3) := by decide +kernel
theorem dX6_sessionAt_15 : decode cX6_sessionAt 15 = .ok (.iload_n 1, 1) := by decide +kernel
theorem dX6_sessionAt_16 : decode cX6_sessionAt 16 = .ok (.aload_n 0, 1) := by decide +kernel
theorem dX6_sessionAt_17 : decode cX6_sessionAt 17 = .ok (.iload_n 3, 1) := by decide +kernel
theorem dX6_sessionAt_18 : decode cX6_sessionAt 18 = .ok (.iconst 1, 1) := by decide +kernel
theorem dX6_sessionAt_19 : decode cX6_sessionAt 19 = .ok (.invokevirtual 34, 3) := by decide +kernel
theorem dX6_sessionAt_22 : decode cX6_sessionAt 22 = .ok (.aload_n 0, 1) := by decide +kernel
theorem dX6_sessionAt_23 : decode cX6_sessionAt 23 = .ok (.iload_n 3, 1) := by decide +kernel
theorem dX6_sessionAt_24 : decode cX6_sessionAt 24 = .ok (.iconst 1, 1) := by decide +kernel
theorem dX6_sessionAt_25 : decode cX6_sessionAt 25 = .ok (.invokevirtual 34, 3) := by decide +kernel
theorem dX6_sessionAt_28 : decode cX6_sessionAt 28 = .ok (.aload_n 0, 1) := by decide +kernel
theorem dX6_sessionAt_29 : decode cX6_sessionAt 29 = .ok (.iload_n 3, 1) := by decide +kernel
theorem dX6_sessionAt_30 : decode cX6_sessionAt 30 = .ok (.iconst 2, 1) := by decide +kernel
theorem dX6_sessionAt_31 : decode cX6_sessionAt 31 = .ok (.invokevirtual 34, 3) := by decide +kernel
theorem dX6_sessionAt_34 : decode cX6_sessionAt 34 = .ok (.iadd, 1) := by decide +kernel
theorem dX6_sessionAt_35 : decode cX6_sessionAt 35 = .ok (.iconst 1, 1) := by decide +kernel
theorem dX6_sessionAt_36 : decode cX6_sessionAt 36 = .ok (.isub, 1) := by decide +kernel
theorem dX6_sessionAt_37 : decode cX6_sessionAt 37 = .ok (.invokestatic 30, 3) := by decide +kernel
theorem dX6_sessionAt_40 : decode cX6_sessionAt 40 = .ok (.ifCond .eq 7, 3) := by decide +kernel
theorem dX6_sessionAt_43 : decode cX6_sessionAt 43 = .ok (.iload_n 3, 1) := by decide +kernel
theorem dX6_sessionAt_44 : decode cX6_sessionAt 44 = .ok (.goto 4, 3) := by decide +kernel
theorem dX6_sessionAt_47 : decode cX6_sessionAt 47 = .ok (.iload_n 2, 1) := by decide +kernel
theorem dX6_sessionAt_48 : decode cX6_sessionAt 48 = .ok (.istore_n 2, 1) := by decide +kernel
theorem dX6_sessionAt_49 : decode cX6_sessionAt 49 = .ok (.iinc 3 1, 3) := by decide +kernel
theorem dX6_sessionAt_52 : decode cX6_sessionAt 52 = .ok (.goto (-47), 3) := by decide +kernel
theorem dX6_sessionAt_55 : decode cX6_sessionAt 55 = .ok (.iload_n 2, 1) := by decide +kernel
theorem dX6_sessionAt_56 : decode cX6_sessionAt 56 = .ok (.ireturn, 1) := by decide +kernel
theorem dX6_takesSectors_0 : decode cX6_takesSectors 0 = .ok (.aload_n 0, 1) := by decide +kernel
theorem dX6_takesSectors_1 : decode cX6_takesSectors 1 = .ok (.getfield 7, 3) := by decide +kernel
theorem dX6_takesSectors_4 : decode cX6_takesSectors 4 = .ok (.iconst 0, 1) := by decide +kernel
theorem dX6_takesSectors_5 : decode cX6_takesSectors 5 = .ok (.dup2, 1) := by decide +kernel
theorem dX6_takesSectors_6 : decode cX6_takesSectors 6 = .ok (.iaload, 1) := by decide +kernel
theorem dX6_takesSectors_7 : decode cX6_takesSectors 7 = .ok (.iload_n 2, 1) := by decide +kernel
theorem dX6_takesSectors_8 : decode cX6_takesSectors 8 = .ok (.iadd, 1) := by decide +kernel
theorem dX6_takesSectors_9 : decode cX6_takesSectors 9 = .ok (.iastore, 1) := by decide +kernel
theorem dX6_takesSectors_10 : decode cX6_takesSectors 10 = .ok (.aload_n 0, 1) := by decide +kernel
theorem dX6_takesSectors_11 : decode cX6_takesSectors 11 = .ok (.iload_n 1, 1) := by decide +kernel
theorem dX6_takesSectors_12 : decode cX6_takesSectors 12 = .ok (.iconst 2, 1) := by decide +kernel
theorem dX6_takesSectors_13 : decode cX6_takesSectors 13 = .ok (.aload_n 0, 1) := by decide +kernel
theorem dX6_takesSectors_14 : decode cX6_takesSectors 14 = .ok (.iload_n 1, 1) := by decide +kernel
theorem dX6_takesSectors_15 : decode cX6_takesSectors 15 = .ok (.iconst 2, 1) := by decide +kernel
theorem dX6_takesSectors_16 : decode cX6_takesSectors 16 = .ok (.invokevirtual 34, 3) := by decide +kernel
theorem dX6_takesSectors_19 : decode cX6_takesSectors 19 = .ok (.iload_n 2, 1) := by decide +kernel
theorem dX6_takesSectors_20 : decode cX6_takesSectors 20 = .ok (.iadd, 1) := by decide +kernel
theorem dX6_takesSectors_21 : decode cX6_takesSectors 21 = .ok (.invokevirtual 59, 3) := by decide +kernel
theorem dX6_takesSectors_24 : decode cX6_takesSectors 24 = .ok (.return_, 1) := by decide +kernel
theorem dX6_goBegin_0 : decode cX6_goBegin 0 = .ok (.iload_n 1, 1) := by decide +kernel
theorem dX6_goBegin_1 : decode cX6_goBegin 1 = .ok (.iconst 0, 1) := by decide +kernel
theorem dX6_goBegin_2 : decode cX6_goBegin 2 = .ok (.iconst 1, 1) := by decide +kernel
theorem dX6_goBegin_3 : decode cX6_goBegin 3 = .ok (.invokestatic 30, 3) := by decide +kernel
theorem dX6_goBegin_6 : decode cX6_goBegin 6 = .ok (.ifCond .ne 6, 3) := by decide +kernel
theorem dX6_goBegin_9 : decode cX6_goBegin 9 = .ok (.bipush (-2), 2) := by decide +kernel
theorem dX6_goBegin_11 : decode cX6_goBegin 11 = .ok (.ireturn, 1) := by decide +kernel
theorem dX6_goBegin_12 : decode cX6_goBegin 12 = .ok (.aload_n 0, 1) := by decide +kernel
theorem dX6_goBegin_13 : decode cX6_goBegin 13 = .ok (.invokevirtual 63, 3) := by decide +kernel
theorem dX6_goBegin_16 : decode cX6_goBegin 16 = .ok (.ifCond .lt 6, 3) := by decide +kernel
theorem dX6_goBegin_19 : decode cX6_goBegin 19 = .ok (.bipush (-5), 2) := by decide +kernel
theorem dX6_goBegin_21 : decode cX6_goBegin 21 = .ok (.ireturn, 1) := by decide +kernel
theorem dX6_goBegin_22 : decode cX6_goBegin 22 = .ok (.aload_n 0, 1) := by decide +kernel
theorem dX6_goBegin_23 : decode cX6_goBegin 23 = .ok (.getfield 7, 3) := by decide +kernel
theorem dX6_goBegin_26 : decode cX6_goBegin 26 = .ok (.iconst 1, 1) := by decide +kernel
theorem dX6_goBegin_27 : decode cX6_goBegin 27 = .ok (.iaload, 1) := by decide +kernel
theorem dX6_goBegin_28 : decode cX6_goBegin 28 = .ok (.bipush 12, 2) := by decide +kernel
theorem dX6_goBegin_30 : decode cX6_goBegin 30 = .ok (.if_icmp .eq 29, 3) := by decide +kernel
theorem dX6_goBegin_33 : decode cX6_goBegin 33 = .ok (.aload_n 0, 1) := by decide +kernel
theorem dX6_goBegin_34 : decode cX6_goBegin 34 = .ok (.getfield 7, 3) := by decide +kernel
theorem dX6_goBegin_37 : decode cX6_goBegin 37 = .ok (.iconst 0, 1) := by decide +kernel
theorem dX6_goBegin_38 : decode cX6_goBegin 38 = .ok (.iaload, 1) := by decide +kernel
theorem dX6_goBegin_39 : decode cX6_goBegin 39 = .ok (.aload_n 0, 1) := by decide +kernel
theorem dX6_goBegin_40 : decode cX6_goBegin 40 = .ok (.getfield 7, 3) := by decide +kernel
theorem dX6_goBegin_43 : decode cX6_goBegin 43 = .ok (.iconst 2, 1) := by decide +kernel
theorem dX6_goBegin_44 : decode cX6_goBegin 44 = .ok (.iaload, 1) := by decide +kernel
theorem dX6_goBegin_45 : decode cX6_goBegin 45 = .ok (.iadd, 1) := by decide +kernel
theorem dX6_goBegin_46 : decode cX6_goBegin 46 = .ok (.aload_n 0, 1) := by decide +kernel
theorem dX6_goBegin_47 : decode cX6_goBegin 47 = .ok (.getfield 7, 3) := by decide +kernel
theorem dX6_goBegin_50 : decode cX6_goBegin 50 = .ok (.iconst 3, 1) := by decide +kernel
theorem dX6_goBegin_51 : decode cX6_goBegin 51 = .ok (.iaload, 1) := by decide +kernel
theorem dX6_goBegin_52 : decode cX6_goBegin 52 = .ok (.iadd, 1) := by decide +kernel
theorem dX6_goBegin_53 : decode cX6_goBegin 53 = .ok (.sipush 240, 3) := by decide +kernel
theorem dX6_goBegin_56 : decode cX6_goBegin 56 = .ok (.if_icmp .le 6, 3) := by decide +kernel
theorem dX6_goBegin_59 : decode cX6_goBegin 59 = .ok (.bipush (-4), 2) := by decide +kernel
theorem dX6_goBegin_61 : decode cX6_goBegin 61 = .ok (.ireturn, 1) := by decide +kernel
theorem dX6_goBegin_62 : decode cX6_goBegin 62 = .ok (.iload_n 1, 1) := by decide +kernel
theorem dX6_goBegin_63 : decode cX6_goBegin 63 = .ok (.iconst 1, 1) := by decide +kernel
theorem dX6_goBegin_64 : decode cX6_goBegin 64 = .ok (.if_icmp .ne 10, 3) := by decide +kernel
theorem dX6_goBegin_67 : decode cX6_goBegin 67 = .ok (.aload_n 0, 1) := by decide +kernel
theorem dX6_goBegin_68 : decode cX6_goBegin 68 = .ok (.invokevirtual 67, 3) := by decide +kernel
theorem dX6_goBegin_71 : decode cX6_goBegin 71 = .ok (.goto 5, 3) := by decide +kernel
theorem dX6_goBegin_74 : decode cX6_goBegin 74 = .ok (.bipush (-6), 2) := by decide +kernel
theorem dX6_goBegin_76 : decode cX6_goBegin 76 = .ok (.istore_n 2, 1) := by decide +kernel
theorem dX6_goBegin_77 : decode cX6_goBegin 77 = .ok (.aload_n 0, 1) := by decide +kernel
theorem dX6_goBegin_78 : decode cX6_goBegin 78 = .ok (.getfield 7, 3) := by decide +kernel
theorem dX6_goBegin_81 : decode cX6_goBegin 81 = .ok (.iconst 1, 1) := by decide +kernel
theorem dX6_goBegin_82 : decode cX6_goBegin 82 = .ok (.iaload, 1) := by decide +kernel
theorem dX6_goBegin_83 : decode cX6_goBegin 83 = .ok (.istore_n 3, 1) := by decide +kernel
theorem dX6_goBegin_84 : decode cX6_goBegin 84 = .ok (.iconst 0, 1) := by decide +kernel
theorem dX6_goBegin_85 : decode cX6_goBegin 85 = .ok (.istore 4, 2) := by decide +kernel
theorem dX6_goBegin_87 : decode cX6_goBegin 87 = .ok (.iload 4, 2) := by decide +kernel
theorem dX6_goBegin_89 : decode cX6_goBegin 89 = .ok (.bipush 20, 2) := by decide +kernel
theorem dX6_goBegin_91 : decode cX6_goBegin 91 = .ok (.if_icmp .ge 39, 3) := by decide +kernel
theorem dX6_goBegin_94 : decode cX6_goBegin 94 = .ok (.aload_n 0, 1) := by decide +kernel
theorem dX6_goBegin_95 : decode cX6_goBegin 95 = .ok (.getfield 7, 3) := by decide +kernel
theorem dX6_goBegin_98 : decode cX6_goBegin 98 = .ok (.bipush 104, 2) := by decide +kernel
theorem dX6_goBegin_100 : decode cX6_goBegin 100 = .ok (.bipush 20, 2) := by decide +kernel
theorem dX6_goBegin_102 : decode cX6_goBegin 102 = .ok (.iload_n 3, 1) := by decide +kernel
theorem dX6_goBegin_103 : decode cX6_goBegin 103 = .ok (.imul, 1) := by decide +kernel
theorem dX6_goBegin_104 : decode cX6_goBegin 104 = .ok (.iadd, 1) := by decide +kernel
theorem dX6_goBegin_105 : decode cX6_goBegin 105 = .ok (.iload 4, 2) := by decide +kernel
theorem dX6_goBegin_107 : decode cX6_goBegin 107 = .ok (.iadd, 1) := by decide +kernel
theorem dX6_goBegin_108 : decode cX6_goBegin 108 = .ok (.iload_n 2, 1) := by decide +kernel
theorem dX6_goBegin_109 : decode cX6_goBegin 109 = .ok (.ifCond .ge 7, 3) := by decide +kernel
theorem dX6_goBegin_112 : decode cX6_goBegin 112 = .ok (.iconst 0, 1) := by decide +kernel
theorem dX6_goBegin_113 : decode cX6_goBegin 113 = .ok (.goto 10, 3) := by decide +kernel
theorem dX6_goBegin_116 : decode cX6_goBegin 116 = .ok (.aload_n 0, 1) := by decide +kernel
theorem dX6_goBegin_117 : decode cX6_goBegin 117 = .ok (.iload_n 2, 1) := by decide +kernel
theorem dX6_goBegin_118 : decode cX6_goBegin 118 = .ok (.iload 4, 2) := by decide +kernel
theorem dX6_goBegin_120 : decode cX6_goBegin 120 = .ok (.invokevirtual 38, 3) := by decide +kernel
theorem dX6_goBegin_123 : decode cX6_goBegin 123 = .ok (.iastore, 1) := by decide +kernel
theorem dX6_goBegin_124 : decode cX6_goBegin 124 = .ok (.iinc 4 1, 3) := by decide +kernel
theorem dX6_goBegin_127 : decode cX6_goBegin 127 = .ok (.goto (-40), 3) := by decide +kernel
theorem dX6_goBegin_130 : decode cX6_goBegin 130 = .ok (.aload_n 0, 1) := by decide +kernel
theorem dX6_goBegin_131 : decode cX6_goBegin 131 = .ok (.iload_n 3, 1) := by decide +kernel
theorem dX6_goBegin_132 : decode cX6_goBegin 132 = .ok (.iconst 0, 1) := by decide +kernel
theorem dX6_goBegin_133 : decode cX6_goBegin 133 = .ok (.iconst 0, 1) := by decide +kernel
theorem dX6_goBegin_134 : decode cX6_goBegin 134 = .ok (.invokevirtual 59, 3) := by decide +kernel
theorem dX6_goBegin_137 : decode cX6_goBegin 137 = .ok (.aload_n 0, 1) := by decide +kernel
theorem dX6_goBegin_138 : decode cX6_goBegin 138 = .ok (.iload_n 3, 1) := by decide +kernel
theorem dX6_goBegin_139 : decode cX6_goBegin 139 = .ok (.iconst 1, 1) := by decide +kernel
theorem dX6_goBegin_140 : decode cX6_goBegin 140 = .ok (.aload_n 0, 1) := by decide +kernel
theorem dX6_goBegin_141 : decode cX6_goBegin 141 = .ok (.getfield 7, 3) := by decide +kernel
theorem dX6_goBegin_144 : decode cX6_goBegin 144 = .ok (.iconst 0, 1) := by decide +kernel
theorem dX6_goBegin_145 : decode cX6_goBegin 145 = .ok (.iaload, 1) := by decide +kernel
theorem dX6_goBegin_146 : decode cX6_goBegin 146 = .ok (.invokevirtual 59, 3) := by decide +kernel
theorem dX6_goBegin_149 : decode cX6_goBegin 149 = .ok (.aload_n 0, 1) := by decide +kernel
theorem dX6_goBegin_150 : decode cX6_goBegin 150 = .ok (.iload_n 3, 1) := by decide +kernel
theorem dX6_goBegin_151 : decode cX6_goBegin 151 = .ok (.iconst 2, 1) := by decide +kernel
theorem dX6_goBegin_152 : decode cX6_goBegin 152 = .ok (.iconst 0, 1) := by decide +kernel
theorem dX6_goBegin_153 : decode cX6_goBegin 153 = .ok (.invokevirtual 59, 3) := by decide +kernel
theorem dX6_goBegin_156 : decode cX6_goBegin 156 = .ok (.aload_n 0, 1) := by decide +kernel
theorem dX6_goBegin_157 : decode cX6_goBegin 157 = .ok (.iload_n 3, 1) := by decide +kernel
theorem dX6_goBegin_158 : decode cX6_goBegin 158 = .ok (.iconst 3, 1) := by decide +kernel
theorem dX6_goBegin_159 : decode cX6_goBegin 159 = .ok (.aload_n 0, 1) := by decide +kernel
theorem dX6_goBegin_160 : decode cX6_goBegin 160 = .ok (.getfield 7, 3) := by decide +kernel
theorem dX6_goBegin_163 : decode cX6_goBegin 163 = .ok (.iconst 2, 1) := by decide +kernel
theorem dX6_goBegin_164 : decode cX6_goBegin 164 = .ok (.iaload, 1) := by decide +kernel
theorem dX6_goBegin_165 : decode cX6_goBegin 165 = .ok (.invokevirtual 59, 3) := by decide +kernel
theorem dX6_goBegin_168 : decode cX6_goBegin 168 = .ok (.aload_n 0, 1) := by decide +kernel
theorem dX6_goBegin_169 : decode cX6_goBegin 169 = .ok (.iload_n 3, 1) := by decide +kernel
theorem dX6_goBegin_170 : decode cX6_goBegin 170 = .ok (.iconst 4, 1) := by decide +kernel
theorem dX6_goBegin_171 : decode cX6_goBegin 171 = .ok (.aload_n 0, 1) := by decide +kernel
theorem dX6_goBegin_172 : decode cX6_goBegin 172 = .ok (.getfield 7, 3) := by decide +kernel
theorem dX6_goBegin_175 : decode cX6_goBegin 175 = .ok (.iconst 3, 1) := by decide +kernel
theorem dX6_goBegin_176 : decode cX6_goBegin 176 = .ok (.iaload, 1) := by decide +kernel
theorem dX6_goBegin_177 : decode cX6_goBegin 177 = .ok (.invokevirtual 59, 3) := by decide +kernel
theorem dX6_goBegin_180 : decode cX6_goBegin 180 = .ok (.aload_n 0, 1) := by decide +kernel
theorem dX6_goBegin_181 : decode cX6_goBegin 181 = .ok (.iload_n 3, 1) := by decide +kernel
theorem dX6_goBegin_182 : decode cX6_goBegin 182 = .ok (.iconst 5, 1) := by decide +kernel
theorem dX6_goBegin_183 : decode cX6_goBegin 183 = .ok (.iconst 0, 1) := by decide +kernel
theorem dX6_goBegin_184 : decode cX6_goBegin 184 = .ok (.invokevirtual 59, 3) := by decide +kernel
theorem dX6_goBegin_187 : decode cX6_goBegin 187 = .ok (.aload_n 0, 1) := by decide +kernel
theorem dX6_goBegin_188 : decode cX6_goBegin 188 = .ok (.iload_n 3, 1) := by decide +kernel
theorem dX6_goBegin_189 : decode cX6_goBegin 189 = .ok (.aload_n 0, 1) := by decide +kernel
theorem dX6_goBegin_190 : decode cX6_goBegin 190 = .ok (.getfield 7, 3) := by decide +kernel
theorem dX6_goBegin_193 : decode cX6_goBegin 193 = .ok (.iconst 2, 1) := by decide +kernel
theorem dX6_goBegin_194 : decode cX6_goBegin 194 = .ok (.iaload, 1) := by decide +kernel
theorem dX6_goBegin_195 : decode cX6_goBegin 195 = .ok (.invokevirtual 70, 3) := by decide +kernel
theorem dX6_goBegin_198 : decode cX6_goBegin 198 = .ok (.aload_n 0, 1) := by decide +kernel
theorem dX6_goBegin_199 : decode cX6_goBegin 199 = .ok (.getfield 7, 3) := by decide +kernel
theorem dX6_goBegin_202 : decode cX6_goBegin 202 = .ok (.iconst 1, 1) := by decide +kernel
theorem dX6_goBegin_203 : decode cX6_goBegin 203 = .ok (.dup2, 1) := by decide +kernel
theorem dX6_goBegin_204 : decode cX6_goBegin 204 = .ok (.iaload, 1) := by decide +kernel
theorem dX6_goBegin_205 : decode cX6_goBegin 205 = .ok (.iconst 1, 1) := by decide +kernel
theorem dX6_goBegin_206 : decode cX6_goBegin 206 = .ok (.iadd, 1) := by decide +kernel
theorem dX6_goBegin_207 : decode cX6_goBegin 207 = .ok (.iastore, 1) := by decide +kernel
theorem dX6_goBegin_208 : decode cX6_goBegin 208 = .ok (.iload_n 3, 1) := by decide +kernel
theorem dX6_goBegin_209 : decode cX6_goBegin 209 = .ok (.ireturn, 1) := by decide +kernel
theorem dX6_goWrite_0 : decode cX6_goWrite 0 = .ok (.aload_n 0, 1) := by decide +kernel
theorem dX6_goWrite_1 : decode cX6_goWrite 1 = .ok (.invokevirtual 63, 3) := by decide +kernel
theorem dX6_goWrite_4 : decode cX6_goWrite 4 = .ok (.istore_n 3, 1) := by decide +kernel
theorem dX6_goWrite_5 : decode cX6_goWrite 5 = .ok (.iload_n 1, 1) := by decide +kernel
theorem dX6_goWrite_6 : decode cX6_goWrite 6 = .ok (.invokestatic 74, 3) := by decide +kernel
theorem dX6_goWrite_9 : decode cX6_goWrite 9 = .ok (.ifCond .ne 5, 3) := by decide +kernel
theorem dX6_goWrite_12 : decode cX6_goWrite 12 = .ok (.iconst (-1), 1) := by decide +kernel
theorem dX6_goWrite_13 : decode cX6_goWrite 13 = .ok (.ireturn, 1) := by decide +kernel
theorem dX6_goWrite_14 : decode cX6_goWrite 14 = .ok (.iload_n 2, 1) := by decide +kernel
theorem dX6_goWrite_15 : decode cX6_goWrite 15 = .ok (.iconst 1, 1) := by decide +kernel
theorem dX6_goWrite_16 : decode cX6_goWrite 16 = .ok (.bipush 40, 2) := by decide +kernel
theorem dX6_goWrite_18 : decode cX6_goWrite 18 = .ok (.invokestatic 30, 3) := by decide +kernel
theorem dX6_goWrite_21 : decode cX6_goWrite 21 = .ok (.ifCond .ne 6, 3) := by decide +kernel
theorem dX6_goWrite_24 : decode cX6_goWrite 24 = .ok (.bipush (-2), 2) := by decide +kernel
theorem dX6_goWrite_26 : decode cX6_goWrite 26 = .ok (.ireturn, 1) := by decide +kernel
theorem dX6_goWrite_27 : decode cX6_goWrite 27 = .ok (.iload_n 3, 1) := by decide +kernel
theorem dX6_goWrite_28 : decode cX6_goWrite 28 = .ok (.ifCond .ge 6, 3) := by decide +kernel
theorem dX6_goWrite_31 : decode cX6_goWrite 31 = .ok (.bipush (-5), 2) := by decide +kernel
theorem dX6_goWrite_33 : decode cX6_goWrite 33 = .ok (.ireturn, 1) := by decide +kernel
theorem dX6_goWrite_34 : decode cX6_goWrite 34 = .ok (.aload_n 0, 1) := by decide +kernel
theorem dX6_goWrite_35 : decode cX6_goWrite 35 = .ok (.getfield 7, 3) := by decide +kernel
theorem dX6_goWrite_38 : decode cX6_goWrite 38 = .ok (.iconst 0, 1) := by decide +kernel
theorem dX6_goWrite_39 : decode cX6_goWrite 39 = .ok (.iaload, 1) := by decide +kernel
theorem dX6_goWrite_40 : decode cX6_goWrite 40 = .ok (.iload_n 2, 1) := by decide +kernel
theorem dX6_goWrite_41 : decode cX6_goWrite 41 = .ok (.iadd, 1) := by decide +kernel
theorem dX6_goWrite_42 : decode cX6_goWrite 42 = .ok (.aload_n 0, 1) := by decide +kernel
theorem dX6_goWrite_43 : decode cX6_goWrite 43 = .ok (.iload_n 3, 1) := by decide +kernel
theorem dX6_goWrite_44 : decode cX6_goWrite 44 = .ok (.iconst 4, 1) := by decide +kernel
theorem dX6_goWrite_45 : decode cX6_goWrite 45 = .ok (.invokevirtual 34, 3) := by decide +kernel
theorem dX6_goWrite_48 : decode cX6_goWrite 48 = .ok (.iadd, 1) := by decide +kernel
theorem dX6_goWrite_49 : decode cX6_goWrite 49 = .ok (.sipush 240, 3) := by decide +kernel
theorem dX6_goWrite_52 : decode cX6_goWrite 52 = .ok (.if_icmp .le 6, 3) := by decide +kernel
theorem dX6_goWrite_55 : decode cX6_goWrite 55 = .ok (.bipush (-4), 2) := by decide +kernel
theorem dX6_goWrite_57 : decode cX6_goWrite 57 = .ok (.ireturn, 1) := by decide +kernel
theorem dX6_goWrite_58 : decode cX6_goWrite 58 = .ok (.aload_n 0, 1) := by decide +kernel
theorem dX6_goWrite_59 : decode cX6_goWrite 59 = .ok (.getfield 7, 3) := by decide +kernel
theorem dX6_goWrite_62 : decode cX6_goWrite 62 = .ok (.iconst 0, 1) := by decide +kernel
theorem dX6_goWrite_63 : decode cX6_goWrite 63 = .ok (.iaload, 1) := by decide +kernel
theorem dX6_goWrite_64 : decode cX6_goWrite 64 = .ok (.istore 4, 2) := by decide +kernel
theorem dX6_goWrite_66 : decode cX6_goWrite 66 = .ok (.aload_n 0, 1) := by decide +kernel
theorem dX6_goWrite_67 : decode cX6_goWrite 67 = .ok (.getfield 7, 3) := by decide +kernel
theorem dX6_goWrite_70 : decode cX6_goWrite 70 = .ok (.bipush 104, 2) := by decide +kernel
theorem dX6_goWrite_72 : decode cX6_goWrite 72 = .ok (.bipush 20, 2) := by decide +kernel
theorem dX6_goWrite_74 : decode cX6_goWrite 74 = .ok (.iload_n 3, 1) := by decide +kernel
theorem dX6_goWrite_75 : decode cX6_goWrite 75 = .ok (.imul, 1) := by decide +kernel
theorem dX6_goWrite_76 : decode cX6_goWrite 76 = .ok (.iadd, 1) := by decide +kernel
theorem dX6_goWrite_77 : decode cX6_goWrite 77 = .ok (.iload_n 1, 1) := by decide +kernel
theorem dX6_goWrite_78 : decode cX6_goWrite 78 = .ok (.iadd, 1) := by decide +kernel
theorem dX6_goWrite_79 : decode cX6_goWrite 79 = .ok (.bipush 64, 2) := by decide +kernel
theorem dX6_goWrite_81 : decode cX6_goWrite 81 = .ok (.iload 4, 2) := by decide +kernel
theorem dX6_goWrite_83 : decode cX6_goWrite 83 = .ok (.iconst 1, 1) := by decide +kernel
theorem dX6_goWrite_84 : decode cX6_goWrite 84 = .ok (.iadd, 1) := by decide +kernel
theorem dX6_goWrite_85 : decode cX6_goWrite 85 = .ok (.imul, 1) := by decide +kernel
theorem dX6_goWrite_86 : decode cX6_goWrite 86 = .ok (.iload_n 2, 1) := by decide +kernel
theorem dX6_goWrite_87 : decode cX6_goWrite 87 = .ok (.iadd, 1) := by decide +kernel
theorem dX6_goWrite_88 : decode cX6_goWrite 88 = .ok (.iastore, 1) := by decide +kernel
theorem dX6_goWrite_89 : decode cX6_goWrite 89 = .ok (.aload_n 0, 1) := by decide +kernel
theorem dX6_goWrite_90 : decode cX6_goWrite 90 = .ok (.getfield 7, 3) := by decide +kernel
theorem dX6_goWrite_93 : decode cX6_goWrite 93 = .ok (.bipush 12, 2) := by decide +kernel
theorem dX6_goWrite_95 : decode cX6_goWrite 95 = .ok (.iload_n 1, 1) := by decide +kernel
theorem dX6_goWrite_96 : decode cX6_goWrite 96 = .ok (.iadd, 1) := by decide +kernel
theorem dX6_goWrite_97 : decode cX6_goWrite 97 = .ok (.dup2, 1) := by decide +kernel
theorem dX6_goWrite_98 : decode cX6_goWrite 98 = .ok (.iaload, 1) := by decide +kernel
theorem dX6_goWrite_99 : decode cX6_goWrite 99 = .ok (.iconst 1, 1) := by decide +kernel
theorem dX6_goWrite_100 : decode cX6_goWrite 100 = .ok (.iadd, 1) := by decide +kernel
theorem dX6_goWrite_101 : decode cX6_goWrite 101 = .ok (.iastore, 1) := by decide +kernel
theorem dX6_goWrite_102 : decode cX6_goWrite 102 = .ok (.aload_n 0, 1) := by decide +kernel
theorem dX6_goWrite_103 : decode cX6_goWrite 103 = .ok (.iload_n 3, 1) := by decide +kernel
theorem dX6_goWrite_104 : decode cX6_goWrite 104 = .ok (.iconst 5, 1) := by decide +kernel
theorem dX6_goWrite_105 : decode cX6_goWrite 105 = .ok (.aload_n 0, 1) := by decide +kernel
theorem dX6_goWrite_106 : decode cX6_goWrite 106 = .ok (.iload_n 3, 1) := by decide +kernel
theorem dX6_goWrite_107 : decode cX6_goWrite 107 = .ok (.iconst 5, 1) := by decide +kernel
theorem dX6_goWrite_108 : decode cX6_goWrite 108 = .ok (.invokevirtual 34, 3) := by decide +kernel
theorem dX6_goWrite_111 : decode cX6_goWrite 111 = .ok (.iconst 1, 1) := by decide +kernel
theorem dX6_goWrite_112 : decode cX6_goWrite 112 = .ok (.iadd, 1) := by decide +kernel
theorem dX6_goWrite_113 : decode cX6_goWrite 113 = .ok (.invokevirtual 59, 3) := by decide +kernel
theorem dX6_goWrite_116 : decode cX6_goWrite 116 = .ok (.aload_n 0, 1) := by decide +kernel
theorem dX6_goWrite_117 : decode cX6_goWrite 117 = .ok (.iload_n 3, 1) := by decide +kernel
theorem dX6_goWrite_118 : decode cX6_goWrite 118 = .ok (.iload_n 2, 1) := by decide +kernel
theorem dX6_goWrite_119 : decode cX6_goWrite 119 = .ok (.invokevirtual 70, 3) := by decide +kernel
theorem dX6_goWrite_122 : decode cX6_goWrite 122 = .ok (.iload 4, 2) := by decide +kernel
theorem dX6_goWrite_124 : decode cX6_goWrite 124 = .ok (.ireturn, 1) := by decide +kernel
theorem dX6_goRemove_0 : decode cX6_goRemove 0 = .ok (.aload_n 0, 1) := by decide +kernel
theorem dX6_goRemove_1 : decode cX6_goRemove 1 = .ok (.invokevirtual 63, 3) := by decide +kernel
theorem dX6_goRemove_4 : decode cX6_goRemove 4 = .ok (.istore_n 2, 1) := by decide +kernel
theorem dX6_goRemove_5 : decode cX6_goRemove 5 = .ok (.iload_n 1, 1) := by decide +kernel
theorem dX6_goRemove_6 : decode cX6_goRemove 6 = .ok (.invokestatic 74, 3) := by decide +kernel
theorem dX6_goRemove_9 : decode cX6_goRemove 9 = .ok (.ifCond .ne 5, 3) := by decide +kernel
theorem dX6_goRemove_12 : decode cX6_goRemove 12 = .ok (.iconst (-1), 1) := by decide +kernel
theorem dX6_goRemove_13 : decode cX6_goRemove 13 = .ok (.ireturn, 1) := by decide +kernel
theorem dX6_goRemove_14 : decode cX6_goRemove 14 = .ok (.iload_n 2, 1) := by decide +kernel
theorem dX6_goRemove_15 : decode cX6_goRemove 15 = .ok (.ifCond .lt 12, 3) := by decide +kernel
theorem dX6_goRemove_18 : decode cX6_goRemove 18 = .ok (.aload_n 0, 1) := by decide +kernel
theorem dX6_goRemove_19 : decode cX6_goRemove 19 = .ok (.iload_n 2, 1) := by decide +kernel
theorem dX6_goRemove_20 : decode cX6_goRemove 20 = .ok (.iload_n 1, 1) := by decide +kernel
theorem dX6_goRemove_21 : decode cX6_goRemove 21 = .ok (.invokevirtual 38, 3) := by decide +kernel
theorem dX6_goRemove_24 : decode cX6_goRemove 24 = .ok (.ifCond .ne 6, 3) := by decide +kernel
theorem dX6_goRemove_27 : decode cX6_goRemove 27 = .ok (.bipush (-5), 2) := by decide +kernel
theorem dX6_goRemove_29 : decode cX6_goRemove 29 = .ok (.ireturn, 1) := by decide +kernel
theorem dX6_goRemove_30 : decode cX6_goRemove 30 = .ok (.aload_n 0, 1) := by decide +kernel
theorem dX6_goRemove_31 : decode cX6_goRemove 31 = .ok (.getfield 7, 3) := by decide +kernel
theorem dX6_goRemove_34 : decode cX6_goRemove 34 = .ok (.bipush 104, 2) := by decide +kernel
theorem dX6_goRemove_36 : decode cX6_goRemove 36 = .ok (.bipush 20, 2) := by decide +kernel
theorem dX6_goRemove_38 : decode cX6_goRemove 38 = .ok (.iload_n 2, 1) := by decide +kernel
theorem dX6_goRemove_39 : decode cX6_goRemove 39 = .ok (.imul, 1) := by decide +kernel
theorem dX6_goRemove_40 : decode cX6_goRemove 40 = .ok (.iadd, 1) := by decide +kernel
theorem dX6_goRemove_41 : decode cX6_goRemove 41 = .ok (.iload_n 1, 1) := by decide +kernel
theorem dX6_goRemove_42 : decode cX6_goRemove 42 = .ok (.iadd, 1) := by decide +kernel
theorem dX6_goRemove_43 : decode cX6_goRemove 43 = .ok (.iconst 0, 1) := by decide +kernel
theorem dX6_goRemove_44 : decode cX6_goRemove 44 = .ok (.iastore, 1) := by decide +kernel
theorem dX6_goRemove_45 : decode cX6_goRemove 45 = .ok (.aload_n 0, 1) := by decide +kernel
theorem dX6_goRemove_46 : decode cX6_goRemove 46 = .ok (.iload_n 2, 1) := by decide +kernel
theorem dX6_goRemove_47 : decode cX6_goRemove 47 = .ok (.invokevirtual 77, 3) := by decide +kernel
theorem dX6_goRemove_50 : decode cX6_goRemove 50 = .ok (.ireturn, 1) := by decide +kernel
theorem dX6_goKeep_0 : decode cX6_goKeep 0 = .ok (.aload_n 0, 1) := by decide +kernel
theorem dX6_goKeep_1 : decode cX6_goKeep 1 = .ok (.invokevirtual 63, 3) := by decide +kernel
theorem dX6_goKeep_4 : decode cX6_goKeep 4 = .ok (.istore_n 3, 1) := by decide +kernel
theorem dX6_goKeep_5 : decode cX6_goKeep 5 = .ok (.iload_n 1, 1) := by decide +kernel
theorem dX6_goKeep_6 : decode cX6_goKeep 6 = .ok (.invokestatic 74, 3) := by decide +kernel
theorem dX6_goKeep_9 : decode cX6_goKeep 9 = .ok (.ifCond .eq 11, 3) := by decide +kernel
theorem dX6_goKeep_12 : decode cX6_goKeep 12 = .ok (.aload_n 0, 1) := by decide +kernel
theorem dX6_goKeep_13 : decode cX6_goKeep 13 = .ok (.iload_n 2, 1) := by decide +kernel
theorem dX6_goKeep_14 : decode cX6_goKeep 14 = .ok (.invokevirtual 80, 3) := by decide +kernel
theorem dX6_goKeep_17 : decode cX6_goKeep 17 = .ok (.ifCond .ne 5, 3) := by decide +kernel
theorem dX6_goKeep_20 : decode cX6_goKeep 20 = .ok (.iconst (-1), 1) := by decide +kernel
theorem dX6_goKeep_21 : decode cX6_goKeep 21 = .ok (.ireturn, 1) := by decide +kernel
theorem dX6_goKeep_22 : decode cX6_goKeep 22 = .ok (.iload_n 3, 1) := by decide +kernel
theorem dX6_goKeep_23 : decode cX6_goKeep 23 = .ok (.ifCond .lt 20, 3) := by decide +kernel
theorem dX6_goKeep_26 : decode cX6_goKeep 26 = .ok (.aload_n 0, 1) := by decide +kernel
theorem dX6_goKeep_27 : decode cX6_goKeep 27 = .ok (.iload_n 2, 1) := by decide +kernel
theorem dX6_goKeep_28 : decode cX6_goKeep 28 = .ok (.invokevirtual 49, 3) := by decide +kernel
theorem dX6_goKeep_31 : decode cX6_goKeep 31 = .ok (.ifCond .eq 12, 3) := by decide +kernel
theorem dX6_goKeep_34 : decode cX6_goKeep 34 = .ok (.aload_n 0, 1) := by decide +kernel
theorem dX6_goKeep_35 : decode cX6_goKeep 35 = .ok (.iload_n 2, 1) := by decide +kernel
theorem dX6_goKeep_36 : decode cX6_goKeep 36 = .ok (.iload_n 1, 1) := by decide +kernel
theorem dX6_goKeep_37 : decode cX6_goKeep 37 = .ok (.invokevirtual 38, 3) := by decide +kernel
theorem dX6_goKeep_40 : decode cX6_goKeep 40 = .ok (.ifCond .ne 6, 3) := by decide +kernel
theorem dX6_goKeep_43 : decode cX6_goKeep 43 = .ok (.bipush (-5), 2) := by decide +kernel
theorem dX6_goKeep_45 : decode cX6_goKeep 45 = .ok (.ireturn, 1) := by decide +kernel
theorem dX6_goKeep_46 : decode cX6_goKeep 46 = .ok (.aload_n 0, 1) := by decide +kernel
theorem dX6_goKeep_47 : decode cX6_goKeep 47 = .ok (.getfield 7, 3) := by decide +kernel
theorem dX6_goKeep_50 : decode cX6_goKeep 50 = .ok (.bipush 104, 2) := by decide +kernel
theorem dX6_goKeep_52 : decode cX6_goKeep 52 = .ok (.bipush 20, 2) := by decide +kernel
theorem dX6_goKeep_54 : decode cX6_goKeep 54 = .ok (.iload_n 3, 1) := by decide +kernel
theorem dX6_goKeep_55 : decode cX6_goKeep 55 = .ok (.imul, 1) := by decide +kernel
theorem dX6_goKeep_56 : decode cX6_goKeep 56 = .ok (.iadd, 1) := by decide +kernel
theorem dX6_goKeep_57 : decode cX6_goKeep 57 = .ok (.iload_n 1, 1) := by decide +kernel
theorem dX6_goKeep_58 : decode cX6_goKeep 58 = .ok (.iadd, 1) := by decide +kernel
theorem dX6_goKeep_59 : decode cX6_goKeep 59 = .ok (.aload_n 0, 1) := by decide +kernel
theorem dX6_goKeep_60 : decode cX6_goKeep 60 = .ok (.iload_n 2, 1) := by decide +kernel
theorem dX6_goKeep_61 : decode cX6_goKeep 61 = .ok (.iload_n 1, 1) := by decide +kernel
theorem dX6_goKeep_62 : decode cX6_goKeep 62 = .ok (.invokevirtual 38, 3) := by decide +kernel
theorem dX6_goKeep_65 : decode cX6_goKeep 65 = .ok (.iastore, 1) := by decide +kernel
theorem dX6_goKeep_66 : decode cX6_goKeep 66 = .ok (.aload_n 0, 1) := by decide +kernel
theorem dX6_goKeep_67 : decode cX6_goKeep 67 = .ok (.iload_n 3, 1) := by decide +kernel
theorem dX6_goKeep_68 : decode cX6_goKeep 68 = .ok (.iload_n 1, 1) := by decide +kernel
theorem dX6_goKeep_69 : decode cX6_goKeep 69 = .ok (.invokevirtual 38, 3) := by decide +kernel
theorem dX6_goKeep_72 : decode cX6_goKeep 72 = .ok (.invokestatic 52, 3) := by decide +kernel
theorem dX6_goKeep_75 : decode cX6_goKeep 75 = .ok (.ireturn, 1) := by decide +kernel
theorem dX6_closes_0 : decode cX6_closes 0 = .ok (.aload_n 0, 1) := by decide +kernel
theorem dX6_closes_1 : decode cX6_closes 1 = .ok (.iload_n 1, 1) := by decide +kernel
theorem dX6_closes_2 : decode cX6_closes 2 = .ok (.aload_n 0, 1) := by decide +kernel
theorem dX6_closes_3 : decode cX6_closes 3 = .ok (.iload_n 1, 1) := by decide +kernel
theorem dX6_closes_4 : decode cX6_closes 4 = .ok (.iconst 4, 1) := by decide +kernel
theorem dX6_closes_5 : decode cX6_closes 5 = .ok (.invokevirtual 34, 3) := by decide +kernel
theorem dX6_closes_8 : decode cX6_closes 8 = .ok (.invokevirtual 70, 3) := by decide +kernel
theorem dX6_closes_11 : decode cX6_closes 11 = .ok (.aload_n 0, 1) := by decide +kernel
theorem dX6_closes_12 : decode cX6_closes 12 = .ok (.iload_n 1, 1) := by decide +kernel
theorem dX6_closes_13 : decode cX6_closes 13 = .ok (.iconst 0, 1) := by decide +kernel
theorem dX6_closes_14 : decode cX6_closes 14 = .ok (.iconst 1, 1) := by decide +kernel
theorem dX6_closes_15 : decode cX6_closes 15 = .ok (.invokevirtual 59, 3) := by decide +kernel
theorem dX6_closes_18 : decode cX6_closes 18 = .ok (.aload_n 0, 1) := by decide +kernel
theorem dX6_closes_19 : decode cX6_closes 19 = .ok (.getfield 7, 3) := by decide +kernel
theorem dX6_closes_22 : decode cX6_closes 22 = .ok (.iconst 0, 1) := by decide +kernel
theorem dX6_closes_23 : decode cX6_closes 23 = .ok (.iaload, 1) := by decide +kernel
theorem dX6_closes_24 : decode cX6_closes 24 = .ok (.ireturn, 1) := by decide +kernel
theorem dX6_goClose_0 : decode cX6_goClose 0 = .ok (.aload_n 0, 1) := by decide +kernel
theorem dX6_goClose_1 : decode cX6_goClose 1 = .ok (.invokevirtual 63, 3) := by decide +kernel
theorem dX6_goClose_4 : decode cX6_goClose 4 = .ok (.ifCond .ge 8, 3) := by decide +kernel
theorem dX6_goClose_7 : decode cX6_goClose 7 = .ok (.bipush (-5), 2) := by decide +kernel
theorem dX6_goClose_9 : decode cX6_goClose 9 = .ok (.goto 11, 3) := by decide +kernel
theorem dX6_goClose_12 : decode cX6_goClose 12 = .ok (.aload_n 0, 1) := by decide +kernel
theorem dX6_goClose_13 : decode cX6_goClose 13 = .ok (.aload_n 0, 1) := by decide +kernel
theorem dX6_goClose_14 : decode cX6_goClose 14 = .ok (.invokevirtual 63, 3) := by decide +kernel
theorem dX6_goClose_17 : decode cX6_goClose 17 = .ok (.invokevirtual 83, 3) := by decide +kernel
theorem dX6_goClose_20 : decode cX6_goClose 20 = .ok (.ireturn, 1) := by decide +kernel
theorem dX6_goEject_0 : decode cX6_goEject 0 = .ok (.aload_n 0, 1) := by decide +kernel
theorem dX6_goEject_1 : decode cX6_goEject 1 = .ok (.invokevirtual 63, 3) := by decide +kernel
theorem dX6_goEject_4 : decode cX6_goEject 4 = .ok (.istore_n 1, 1) := by decide +kernel
theorem dX6_goEject_5 : decode cX6_goEject 5 = .ok (.iload_n 1, 1) := by decide +kernel
theorem dX6_goEject_6 : decode cX6_goEject 6 = .ok (.ifCond .lt 10, 3) := by decide +kernel
theorem dX6_goEject_9 : decode cX6_goEject 9 = .ok (.aload_n 0, 1) := by decide +kernel
theorem dX6_goEject_10 : decode cX6_goEject 10 = .ok (.iload_n 1, 1) := by decide +kernel
theorem dX6_goEject_11 : decode cX6_goEject 11 = .ok (.iconst 0, 1) := by decide +kernel
theorem dX6_goEject_12 : decode cX6_goEject 12 = .ok (.iconst 2, 1) := by decide +kernel
theorem dX6_goEject_13 : decode cX6_goEject 13 = .ok (.invokevirtual 59, 3) := by decide +kernel
theorem dX6_goEject_16 : decode cX6_goEject 16 = .ok (.iload_n 1, 1) := by decide +kernel
theorem dX6_goEject_17 : decode cX6_goEject 17 = .ok (.ifCond .ge 7, 3) := by decide +kernel
theorem dX6_goEject_20 : decode cX6_goEject 20 = .ok (.iconst 0, 1) := by decide +kernel
theorem dX6_goEject_21 : decode cX6_goEject 21 = .ok (.goto 4, 3) := by decide +kernel
theorem dX6_goEject_24 : decode cX6_goEject 24 = .ok (.iconst 1, 1) := by decide +kernel
theorem dX6_goEject_25 : decode cX6_goEject 25 = .ok (.ireturn, 1) := by decide +kernel
theorem dX6_goRepair_0 : decode cX6_goRepair 0 = .ok (.aload_n 0, 1) := by decide +kernel
theorem dX6_goRepair_1 : decode cX6_goRepair 1 = .ok (.iload_n 1, 1) := by decide +kernel
theorem dX6_goRepair_2 : decode cX6_goRepair 2 = .ok (.invokevirtual 80, 3) := by decide +kernel
theorem dX6_goRepair_5 : decode cX6_goRepair 5 = .ok (.ifCond .ne 5, 3) := by decide +kernel
theorem dX6_goRepair_8 : decode cX6_goRepair 8 = .ok (.iconst (-1), 1) := by decide +kernel
theorem dX6_goRepair_9 : decode cX6_goRepair 9 = .ok (.ireturn, 1) := by decide +kernel
theorem dX6_goRepair_10 : decode cX6_goRepair 10 = .ok (.aload_n 0, 1) := by decide +kernel
theorem dX6_goRepair_11 : decode cX6_goRepair 11 = .ok (.iload_n 1, 1) := by decide +kernel
theorem dX6_goRepair_12 : decode cX6_goRepair 12 = .ok (.iconst 0, 1) := by decide +kernel
theorem dX6_goRepair_13 : decode cX6_goRepair 13 = .ok (.invokevirtual 34, 3) := by decide +kernel
theorem dX6_goRepair_16 : decode cX6_goRepair 16 = .ok (.iconst 2, 1) := by decide +kernel
theorem dX6_goRepair_17 : decode cX6_goRepair 17 = .ok (.if_icmp .ne 38, 3) := by decide +kernel
theorem dX6_goRepair_20 : decode cX6_goRepair 20 = .ok (.iload_n 1, 1) := by decide +kernel
theorem dX6_goRepair_21 : decode cX6_goRepair 21 = .ok (.aload_n 0, 1) := by decide +kernel
theorem dX6_goRepair_22 : decode cX6_goRepair 22 = .ok (.getfield 7, 3) := by decide +kernel
theorem dX6_goRepair_25 : decode cX6_goRepair 25 = .ok (.iconst 1, 1) := by decide +kernel
theorem dX6_goRepair_26 : decode cX6_goRepair 26 = .ok (.iaload, 1) := by decide +kernel
theorem dX6_goRepair_27 : decode cX6_goRepair 27 = .ok (.iconst 1, 1) := by decide +kernel
theorem dX6_goRepair_28 : decode cX6_goRepair 28 = .ok (.isub, 1) := by decide +kernel
theorem dX6_goRepair_29 : decode cX6_goRepair 29 = .ok (.if_icmp .ne 26, 3) := by decide +kernel
theorem dX6_goRepair_32 : decode cX6_goRepair 32 = .ok (.aload_n 0, 1) := by decide +kernel
theorem dX6_goRepair_33 : decode cX6_goRepair 33 = .ok (.aload_n 0, 1) := by decide +kernel
theorem dX6_goRepair_34 : decode cX6_goRepair 34 = .ok (.iload_n 1, 1) := by decide +kernel
theorem dX6_goRepair_35 : decode cX6_goRepair 35 = .ok (.iconst 1, 1) := by decide +kernel
theorem dX6_goRepair_36 : decode cX6_goRepair 36 = .ok (.invokevirtual 34, 3) := by decide +kernel
theorem dX6_goRepair_39 : decode cX6_goRepair 39 = .ok (.aload_n 0, 1) := by decide +kernel
theorem dX6_goRepair_40 : decode cX6_goRepair 40 = .ok (.iload_n 1, 1) := by decide +kernel
theorem dX6_goRepair_41 : decode cX6_goRepair 41 = .ok (.iconst 3, 1) := by decide +kernel
theorem dX6_goRepair_42 : decode cX6_goRepair 42 = .ok (.invokevirtual 34, 3) := by decide +kernel
theorem dX6_goRepair_45 : decode cX6_goRepair 45 = .ok (.invokevirtual 45, 3) := by decide +kernel
theorem dX6_goRepair_48 : decode cX6_goRepair 48 = .ok (.ifCond .eq 7, 3) := by decide +kernel
theorem dX6_goRepair_51 : decode cX6_goRepair 51 = .ok (.iconst 1, 1) := by decide +kernel
theorem dX6_goRepair_52 : decode cX6_goRepair 52 = .ok (.goto 4, 3) := by decide +kernel
theorem dX6_goRepair_55 : decode cX6_goRepair 55 = .ok (.iconst 0, 1) := by decide +kernel
theorem dX6_goRepair_56 : decode cX6_goRepair 56 = .ok (.istore_n 2, 1) := by decide +kernel
theorem dX6_goRepair_57 : decode cX6_goRepair 57 = .ok (.iload_n 2, 1) := by decide +kernel
theorem dX6_goRepair_58 : decode cX6_goRepair 58 = .ok (.ifCond .eq 11, 3) := by decide +kernel
theorem dX6_goRepair_61 : decode cX6_goRepair 61 = .ok (.aload_n 0, 1) := by decide +kernel
theorem dX6_goRepair_62 : decode cX6_goRepair 62 = .ok (.iload_n 1, 1) := by decide +kernel
theorem dX6_goRepair_63 : decode cX6_goRepair 63 = .ok (.invokevirtual 83, 3) := by decide +kernel
theorem dX6_goRepair_66 : decode cX6_goRepair 66 = .ok (.goto 5, 3) := by decide +kernel
theorem dX6_goRepair_69 : decode cX6_goRepair 69 = .ok (.bipush (-5), 2) := by decide +kernel
theorem dX6_goRepair_71 : decode cX6_goRepair 71 = .ok (.ireturn, 1) := by decide +kernel
theorem dX6_damages_0 : decode cX6_damages 0 = .ok (.iconst 0, 1) := by decide +kernel
theorem dX6_damages_1 : decode cX6_damages 1 = .ok (.istore_n 1, 1) := by decide +kernel
theorem dX6_damages_2 : decode cX6_damages 2 = .ok (.iconst 0, 1) := by decide +kernel
theorem dX6_damages_3 : decode cX6_damages 3 = .ok (.istore_n 2, 1) := by decide +kernel
theorem dX6_damages_4 : decode cX6_damages 4 = .ok (.iload_n 2, 1) := by decide +kernel
theorem dX6_damages_5 : decode cX6_damages 5 = .ok (.sipush 240, 3) := by decide +kernel
theorem dX6_damages_8 : decode cX6_damages 8 = .ok (.if_icmp .ge 25, 3) := by decide +kernel
theorem dX6_damages_11 : decode cX6_damages 11 = .ok (.iload_n 1, 1) := by decide +kernel
theorem dX6_damages_12 : decode cX6_damages 12 = .ok (.aload_n 0, 1) := by decide +kernel
theorem dX6_damages_13 : decode cX6_damages 13 = .ok (.iload_n 2, 1) := by decide +kernel
theorem dX6_damages_14 : decode cX6_damages 14 = .ok (.invokevirtual 41, 3) := by decide +kernel
theorem dX6_damages_17 : decode cX6_damages 17 = .ok (.ifCond .eq 7, 3) := by decide +kernel
theorem dX6_damages_20 : decode cX6_damages 20 = .ok (.iconst 1, 1) := by decide +kernel
theorem dX6_damages_21 : decode cX6_damages 21 = .ok (.goto 4, 3) := by decide +kernel
theorem dX6_damages_24 : decode cX6_damages 24 = .ok (.iconst 0, 1) := by decide +kernel
theorem dX6_damages_25 : decode cX6_damages 25 = .ok (.iadd, 1) := by decide +kernel
theorem dX6_damages_26 : decode cX6_damages 26 = .ok (.istore_n 1, 1) := by decide +kernel
theorem dX6_damages_27 : decode cX6_damages 27 = .ok (.iinc 2 1, 3) := by decide +kernel
theorem dX6_damages_30 : decode cX6_damages 30 = .ok (.goto (-26), 3) := by decide +kernel
theorem dX6_damages_33 : decode cX6_damages 33 = .ok (.iload_n 1, 1) := by decide +kernel
theorem dX6_damages_34 : decode cX6_damages 34 = .ok (.ireturn, 1) := by decide +kernel
theorem dX6_goDamage_0 : decode cX6_goDamage 0 = .ok (.iload_n 1, 1) := by decide +kernel
theorem dX6_goDamage_1 : decode cX6_goDamage 1 = .ok (.invokestatic 86, 3) := by decide +kernel
theorem dX6_goDamage_4 : decode cX6_goDamage 4 = .ok (.ifCond .ne 5, 3) := by decide +kernel
theorem dX6_goDamage_7 : decode cX6_goDamage 7 = .ok (.iconst (-1), 1) := by decide +kernel
theorem dX6_goDamage_8 : decode cX6_goDamage 8 = .ok (.ireturn, 1) := by decide +kernel
theorem dX6_goDamage_9 : decode cX6_goDamage 9 = .ok (.aload_n 0, 1) := by decide +kernel
theorem dX6_goDamage_10 : decode cX6_goDamage 10 = .ok (.getfield 7, 3) := by decide +kernel
theorem dX6_goDamage_13 : decode cX6_goDamage 13 = .ok (.iconst 4, 1) := by decide +kernel
theorem dX6_goDamage_14 : decode cX6_goDamage 14 = .ok (.iload_n 1, 1) := by decide +kernel
theorem dX6_goDamage_15 : decode cX6_goDamage 15 = .ok (.bipush 30, 2) := by decide +kernel
theorem dX6_goDamage_17 : decode cX6_goDamage 17 = .ok (.idiv, 1) := by decide +kernel
theorem dX6_goDamage_18 : decode cX6_goDamage 18 = .ok (.iadd, 1) := by decide +kernel
theorem dX6_goDamage_19 : decode cX6_goDamage 19 = .ok (.dup2, 1) := by decide +kernel
theorem dX6_goDamage_20 : decode cX6_goDamage 20 = .ok (.iaload, 1) := by decide +kernel
theorem dX6_goDamage_21 : decode cX6_goDamage 21 = .ok (.iconst 1, 1) := by decide +kernel
theorem dX6_goDamage_22 : decode cX6_goDamage 22 = .ok (.iload_n 1, 1) := by decide +kernel
theorem dX6_goDamage_23 : decode cX6_goDamage 23 = .ok (.bipush 30, 2) := by decide +kernel
theorem dX6_goDamage_25 : decode cX6_goDamage 25 = .ok (.irem, 1) := by decide +kernel
theorem dX6_goDamage_26 : decode cX6_goDamage 26 = .ok (.ishl, 1) := by decide +kernel
theorem dX6_goDamage_27 : decode cX6_goDamage 27 = .ok (.ior, 1) := by decide +kernel
theorem dX6_goDamage_28 : decode cX6_goDamage 28 = .ok (.iastore, 1) := by decide +kernel
theorem dX6_goDamage_29 : decode cX6_goDamage 29 = .ok (.aload_n 0, 1) := by decide +kernel
theorem dX6_goDamage_30 : decode cX6_goDamage 30 = .ok (.invokevirtual 89, 3) := by decide +kernel
theorem dX6_goDamage_33 : decode cX6_goDamage 33 = .ok (.ireturn, 1) := by decide +kernel
theorem dX6_goSet_0 : decode cX6_goSet 0 = .ok (.iload_n 1, 1) := by decide +kernel
theorem dX6_goSet_1 : decode cX6_goSet 1 = .ok (.iconst 0, 1) := by decide +kernel
theorem dX6_goSet_2 : decode cX6_goSet 2 = .ok (.iconst 1, 1) := by decide +kernel
theorem dX6_goSet_3 : decode cX6_goSet 3 = .ok (.invokestatic 30, 3) := by decide +kernel
theorem dX6_goSet_6 : decode cX6_goSet 6 = .ok (.ifCond .ne 5, 3) := by decide +kernel
theorem dX6_goSet_9 : decode cX6_goSet 9 = .ok (.iconst (-1), 1) := by decide +kernel
theorem dX6_goSet_10 : decode cX6_goSet 10 = .ok (.ireturn, 1) := by decide +kernel
theorem dX6_goSet_11 : decode cX6_goSet 11 = .ok (.iload_n 2, 1) := by decide +kernel
theorem dX6_goSet_12 : decode cX6_goSet 12 = .ok (.iload_n 1, 1) := by decide +kernel
theorem dX6_goSet_13 : decode cX6_goSet 13 = .ok (.ifCond .ne 7, 3) := by decide +kernel
theorem dX6_goSet_16 : decode cX6_goSet 16 = .ok (.iconst 2, 1) := by decide +kernel
theorem dX6_goSet_17 : decode cX6_goSet 17 = .ok (.goto 4, 3) := by decide +kernel
theorem dX6_goSet_20 : decode cX6_goSet 20 = .ok (.iconst 1, 1) := by decide +kernel
theorem dX6_goSet_21 : decode cX6_goSet 21 = .ok (.bipush 9, 2) := by decide +kernel
theorem dX6_goSet_23 : decode cX6_goSet 23 = .ok (.invokestatic 30, 3) := by decide +kernel
theorem dX6_goSet_26 : decode cX6_goSet 26 = .ok (.ifCond .ne 6, 3) := by decide +kernel
theorem dX6_goSet_29 : decode cX6_goSet 29 = .ok (.bipush (-2), 2) := by decide +kernel
theorem dX6_goSet_31 : decode cX6_goSet 31 = .ok (.ireturn, 1) := by decide +kernel
theorem dX6_goSet_32 : decode cX6_goSet 32 = .ok (.aload_n 0, 1) := by decide +kernel
theorem dX6_goSet_33 : decode cX6_goSet 33 = .ok (.getfield 7, 3) := by decide +kernel
theorem dX6_goSet_36 : decode cX6_goSet 36 = .ok (.iconst 2, 1) := by decide +kernel
theorem dX6_goSet_37 : decode cX6_goSet 37 = .ok (.iload_n 1, 1) := by decide +kernel
theorem dX6_goSet_38 : decode cX6_goSet 38 = .ok (.iadd, 1) := by decide +kernel
theorem dX6_goSet_39 : decode cX6_goSet 39 = .ok (.iaload, 1) := by decide +kernel
theorem dX6_goSet_40 : decode cX6_goSet 40 = .ok (.istore_n 3, 1) := by decide +kernel
theorem dX6_goSet_41 : decode cX6_goSet 41 = .ok (.aload_n 0, 1) := by decide +kernel
theorem dX6_goSet_42 : decode cX6_goSet 42 = .ok (.getfield 7, 3) := by decide +kernel
theorem dX6_goSet_45 : decode cX6_goSet 45 = .ok (.iconst 2, 1) := by decide +kernel
theorem dX6_goSet_46 : decode cX6_goSet 46 = .ok (.iload_n 1, 1) := by decide +kernel
theorem dX6_goSet_47 : decode cX6_goSet 47 = .ok (.iadd, 1) := by decide +kernel
theorem dX6_goSet_48 : decode cX6_goSet 48 = .ok (.iload_n 2, 1) := by decide +kernel
theorem dX6_goSet_49 : decode cX6_goSet 49 = .ok (.iastore, 1) := by decide +kernel
theorem dX6_goSet_50 : decode cX6_goSet 50 = .ok (.iload_n 3, 1) := by decide +kernel
theorem dX6_goSet_51 : decode cX6_goSet 51 = .ok (.ireturn, 1) := by decide +kernel
theorem dX6_begin_0 : decode cX6_begin 0 = .ok (.aload_n 0, 1) := by decide +kernel
theorem dX6_begin_1 : decode cX6_begin 1 = .ok (.invokevirtual 92, 3) := by decide +kernel
theorem dX6_begin_4 : decode cX6_begin 4 = .ok (.aload_n 0, 1) := by decide +kernel
theorem dX6_begin_5 : decode cX6_begin 5 = .ok (.aload_n 0, 1) := by decide +kernel
theorem dX6_begin_6 : decode cX6_begin 6 = .ok (.iload_n 1, 1) := by decide +kernel
theorem dX6_begin_7 : decode cX6_begin 7 = .ok (.invokevirtual 95, 3) := by decide +kernel
theorem dX6_begin_10 : decode cX6_begin 10 = .ok (.invokevirtual 98, 3) := by decide +kernel
theorem dX6_begin_13 : decode cX6_begin 13 = .ok (.ireturn, 1) := by decide +kernel
theorem dX6_write_0 : decode cX6_write 0 = .ok (.aload_n 0, 1) := by decide +kernel
theorem dX6_write_1 : decode cX6_write 1 = .ok (.invokevirtual 92, 3) := by decide +kernel
theorem dX6_write_4 : decode cX6_write 4 = .ok (.aload_n 0, 1) := by decide +kernel
theorem dX6_write_5 : decode cX6_write 5 = .ok (.aload_n 0, 1) := by decide +kernel
theorem dX6_write_6 : decode cX6_write 6 = .ok (.iload_n 1, 1) := by decide +kernel
theorem dX6_write_7 : decode cX6_write 7 = .ok (.iload_n 2, 1) := by decide +kernel
theorem dX6_write_8 : decode cX6_write 8 = .ok (.invokevirtual 101, 3) := by decide +kernel
theorem dX6_write_11 : decode cX6_write 11 = .ok (.invokevirtual 98, 3) := by decide +kernel
theorem dX6_write_14 : decode cX6_write 14 = .ok (.ireturn, 1) := by decide +kernel
theorem dX6_remove_0 : decode cX6_remove 0 = .ok (.aload_n 0, 1) := by decide +kernel
theorem dX6_remove_1 : decode cX6_remove 1 = .ok (.invokevirtual 92, 3) := by decide +kernel
theorem dX6_remove_4 : decode cX6_remove 4 = .ok (.aload_n 0, 1) := by decide +kernel
theorem dX6_remove_5 : decode cX6_remove 5 = .ok (.aload_n 0, 1) := by decide +kernel
theorem dX6_remove_6 : decode cX6_remove 6 = .ok (.iload_n 1, 1) := by decide +kernel
theorem dX6_remove_7 : decode cX6_remove 7 = .ok (.invokevirtual 104, 3) := by decide +kernel
theorem dX6_remove_10 : decode cX6_remove 10 = .ok (.invokevirtual 98, 3) := by decide +kernel
theorem dX6_remove_13 : decode cX6_remove 13 = .ok (.ireturn, 1) := by decide +kernel
theorem dX6_keep_0 : decode cX6_keep 0 = .ok (.aload_n 0, 1) := by decide +kernel
theorem dX6_keep_1 : decode cX6_keep 1 = .ok (.invokevirtual 92, 3) := by decide +kernel
theorem dX6_keep_4 : decode cX6_keep 4 = .ok (.aload_n 0, 1) := by decide +kernel
theorem dX6_keep_5 : decode cX6_keep 5 = .ok (.aload_n 0, 1) := by decide +kernel
theorem dX6_keep_6 : decode cX6_keep 6 = .ok (.iload_n 1, 1) := by decide +kernel
theorem dX6_keep_7 : decode cX6_keep 7 = .ok (.iload_n 2, 1) := by decide +kernel
theorem dX6_keep_8 : decode cX6_keep 8 = .ok (.invokevirtual 107, 3) := by decide +kernel
theorem dX6_keep_11 : decode cX6_keep 11 = .ok (.invokevirtual 98, 3) := by decide +kernel
theorem dX6_keep_14 : decode cX6_keep 14 = .ok (.ireturn, 1) := by decide +kernel
theorem dX6_close_0 : decode cX6_close 0 = .ok (.aload_n 0, 1) := by decide +kernel
theorem dX6_close_1 : decode cX6_close 1 = .ok (.invokevirtual 92, 3) := by decide +kernel
theorem dX6_close_4 : decode cX6_close 4 = .ok (.aload_n 0, 1) := by decide +kernel
theorem dX6_close_5 : decode cX6_close 5 = .ok (.aload_n 0, 1) := by decide +kernel
theorem dX6_close_6 : decode cX6_close 6 = .ok (.invokevirtual 110, 3) := by decide +kernel
theorem dX6_close_9 : decode cX6_close 9 = .ok (.invokevirtual 98, 3) := by decide +kernel
theorem dX6_close_12 : decode cX6_close 12 = .ok (.ireturn, 1) := by decide +kernel
theorem dX6_eject_0 : decode cX6_eject 0 = .ok (.aload_n 0, 1) := by decide +kernel
theorem dX6_eject_1 : decode cX6_eject 1 = .ok (.invokevirtual 92, 3) := by decide +kernel
theorem dX6_eject_4 : decode cX6_eject 4 = .ok (.aload_n 0, 1) := by decide +kernel
theorem dX6_eject_5 : decode cX6_eject 5 = .ok (.aload_n 0, 1) := by decide +kernel
theorem dX6_eject_6 : decode cX6_eject 6 = .ok (.invokevirtual 113, 3) := by decide +kernel
theorem dX6_eject_9 : decode cX6_eject 9 = .ok (.invokevirtual 98, 3) := by decide +kernel
theorem dX6_eject_12 : decode cX6_eject 12 = .ok (.ireturn, 1) := by decide +kernel
theorem dX6_repair_0 : decode cX6_repair 0 = .ok (.aload_n 0, 1) := by decide +kernel
theorem dX6_repair_1 : decode cX6_repair 1 = .ok (.invokevirtual 92, 3) := by decide +kernel
theorem dX6_repair_4 : decode cX6_repair 4 = .ok (.aload_n 0, 1) := by decide +kernel
theorem dX6_repair_5 : decode cX6_repair 5 = .ok (.aload_n 0, 1) := by decide +kernel
theorem dX6_repair_6 : decode cX6_repair 6 = .ok (.iload_n 1, 1) := by decide +kernel
theorem dX6_repair_7 : decode cX6_repair 7 = .ok (.invokevirtual 116, 3) := by decide +kernel
theorem dX6_repair_10 : decode cX6_repair 10 = .ok (.invokevirtual 98, 3) := by decide +kernel
theorem dX6_repair_13 : decode cX6_repair 13 = .ok (.ireturn, 1) := by decide +kernel
theorem dX6_damage_0 : decode cX6_damage 0 = .ok (.aload_n 0, 1) := by decide +kernel
theorem dX6_damage_1 : decode cX6_damage 1 = .ok (.invokevirtual 92, 3) := by decide +kernel
theorem dX6_damage_4 : decode cX6_damage 4 = .ok (.aload_n 0, 1) := by decide +kernel
theorem dX6_damage_5 : decode cX6_damage 5 = .ok (.aload_n 0, 1) := by decide +kernel
theorem dX6_damage_6 : decode cX6_damage 6 = .ok (.iload_n 1, 1) := by decide +kernel
theorem dX6_damage_7 : decode cX6_damage 7 = .ok (.invokevirtual 119, 3) := by decide +kernel
theorem dX6_damage_10 : decode cX6_damage 10 = .ok (.invokevirtual 98, 3) := by decide +kernel
theorem dX6_damage_13 : decode cX6_damage 13 = .ok (.ireturn, 1) := by decide +kernel
theorem dX6_set_0 : decode cX6_set 0 = .ok (.aload_n 0, 1) := by decide +kernel
theorem dX6_set_1 : decode cX6_set 1 = .ok (.invokevirtual 92, 3) := by decide +kernel
theorem dX6_set_4 : decode cX6_set 4 = .ok (.aload_n 0, 1) := by decide +kernel
theorem dX6_set_5 : decode cX6_set 5 = .ok (.aload_n 0, 1) := by decide +kernel
theorem dX6_set_6 : decode cX6_set 6 = .ok (.iload_n 1, 1) := by decide +kernel
theorem dX6_set_7 : decode cX6_set 7 = .ok (.iload_n 2, 1) := by decide +kernel
theorem dX6_set_8 : decode cX6_set 8 = .ok (.invokevirtual 122, 3) := by decide +kernel
theorem dX6_set_11 : decode cX6_set 11 = .ok (.invokevirtual 98, 3) := by decide +kernel
theorem dX6_set_14 : decode cX6_set 14 = .ok (.ireturn, 1) := by decide +kernel
theorem dX6_append_0 : decode cX6_append 0 = .ok (.iload_n 1, 1) := by decide +kernel
theorem dX6_append_1 : decode cX6_append 1 = .ok (.bipush 32, 2) := by decide +kernel
theorem dX6_append_3 : decode cX6_append 3 = .ok (.bipush 126, 2) := by decide +kernel
theorem dX6_append_5 : decode cX6_append 5 = .ok (.invokestatic 30, 3) := by decide +kernel
theorem dX6_append_8 : decode cX6_append 8 = .ok (.ifCond .ne 6, 3) := by decide +kernel
theorem dX6_append_11 : decode cX6_append 11 = .ok (.bipush (-2), 2) := by decide +kernel
theorem dX6_append_13 : decode cX6_append 13 = .ok (.ireturn, 1) := by decide +kernel
theorem dX6_append_14 : decode cX6_append 14 = .ok (.aload_n 0, 1) := by decide +kernel
theorem dX6_append_15 : decode cX6_append 15 = .ok (.getfield 125, 3) := by decide +kernel
theorem dX6_append_18 : decode cX6_append 18 = .ok (.bipush 80, 2) := by decide +kernel
theorem dX6_append_20 : decode cX6_append 20 = .ok (.if_icmp .ne 6, 3) := by decide +kernel
theorem dX6_append_23 : decode cX6_append 23 = .ok (.bipush (-4), 2) := by decide +kernel
theorem dX6_append_25 : decode cX6_append 25 = .ok (.ireturn, 1) := by decide +kernel
theorem dX6_append_26 : decode cX6_append 26 = .ok (.aload_n 0, 1) := by decide +kernel
theorem dX6_append_27 : decode cX6_append 27 = .ok (.getfield 19, 3) := by decide +kernel
theorem dX6_append_30 : decode cX6_append 30 = .ok (.aload_n 0, 1) := by decide +kernel
theorem dX6_append_31 : decode cX6_append 31 = .ok (.getfield 125, 3) := by decide +kernel
theorem dX6_append_34 : decode cX6_append 34 = .ok (.iload_n 1, 1) := by decide +kernel
theorem dX6_append_35 : decode cX6_append 35 = .ok (.iastore, 1) := by decide +kernel
theorem dX6_append_36 : decode cX6_append 36 = .ok (.aload_n 0, 1) := by decide +kernel
theorem dX6_append_37 : decode cX6_append 37 = .ok (.dup, 1) := by decide +kernel
theorem dX6_append_38 : decode cX6_append 38 = .ok (.getfield 125, 3) := by decide +kernel
theorem dX6_append_41 : decode cX6_append 41 = .ok (.iconst 1, 1) := by decide +kernel
theorem dX6_append_42 : decode cX6_append 42 = .ok (.iadd, 1) := by decide +kernel
theorem dX6_append_43 : decode cX6_append 43 = .ok (.putfield 125, 3) := by decide +kernel
theorem dX6_append_46 : decode cX6_append 46 = .ok (.aload_n 0, 1) := by decide +kernel
theorem dX6_append_47 : decode cX6_append 47 = .ok (.getfield 125, 3) := by decide +kernel
theorem dX6_append_50 : decode cX6_append 50 = .ok (.ireturn, 1) := by decide +kernel
theorem dX6_clearText_0 : decode cX6_clearText 0 = .ok (.aload_n 0, 1) := by decide +kernel
theorem dX6_clearText_1 : decode cX6_clearText 1 = .ok (.getfield 125, 3) := by decide +kernel
theorem dX6_clearText_4 : decode cX6_clearText 4 = .ok (.istore_n 1, 1) := by decide +kernel
theorem dX6_clearText_5 : decode cX6_clearText 5 = .ok (.aload_n 0, 1) := by decide +kernel
theorem dX6_clearText_6 : decode cX6_clearText 6 = .ok (.iconst 0, 1) := by decide +kernel
theorem dX6_clearText_7 : decode cX6_clearText 7 = .ok (.putfield 125, 3) := by decide +kernel
theorem dX6_clearText_10 : decode cX6_clearText 10 = .ok (.iload_n 1, 1) := by decide +kernel
theorem dX6_clearText_11 : decode cX6_clearText 11 = .ok (.ireturn, 1) := by decide +kernel
theorem dX6_here_0 : decode cX6_here 0 = .ok (.aload_n 0, 1) := by decide +kernel
theorem dX6_here_1 : decode cX6_here 1 = .ok (.getfield 128, 3) := by decide +kernel
theorem dX6_here_4 : decode cX6_here 4 = .ok (.aload_n 0, 1) := by decide +kernel
theorem dX6_here_5 : decode cX6_here 5 = .ok (.getfield 125, 3) := by decide +kernel
theorem dX6_here_8 : decode cX6_here 8 = .ok (.if_icmp .ge 15, 3) := by decide +kernel
theorem dX6_here_11 : decode cX6_here 11 = .ok (.aload_n 0, 1) := by decide +kernel
theorem dX6_here_12 : decode cX6_here 12 = .ok (.getfield 19, 3) := by decide +kernel
theorem dX6_here_15 : decode cX6_here 15 = .ok (.aload_n 0, 1) := by decide +kernel
theorem dX6_here_16 : decode cX6_here 16 = .ok (.getfield 128, 3) := by decide +kernel
theorem dX6_here_19 : decode cX6_here 19 = .ok (.iaload, 1) := by decide +kernel
theorem dX6_here_20 : decode cX6_here 20 = .ok (.goto 4, 3) := by decide +kernel
theorem dX6_here_23 : decode cX6_here 23 = .ok (.iconst 0, 1) := by decide +kernel
theorem dX6_here_24 : decode cX6_here 24 = .ok (.ireturn, 1) := by decide +kernel
theorem dX6_takes_0 : decode cX6_takes 0 = .ok (.aload_n 0, 1) := by decide +kernel
theorem dX6_takes_1 : decode cX6_takes 1 = .ok (.aload_n 0, 1) := by decide +kernel
theorem dX6_takes_2 : decode cX6_takes 2 = .ok (.getfield 131, 3) := by decide +kernel
theorem dX6_takes_5 : decode cX6_takes 5 = .ok (.ifCond .eq 11, 3) := by decide +kernel
theorem dX6_takes_8 : decode cX6_takes 8 = .ok (.iload_n 1, 1) := by decide +kernel
theorem dX6_takes_9 : decode cX6_takes 9 = .ok (.ifCond .eq 7, 3) := by decide +kernel
theorem dX6_takes_12 : decode cX6_takes 12 = .ok (.iconst 1, 1) := by decide +kernel
theorem dX6_takes_13 : decode cX6_takes 13 = .ok (.goto 4, 3) := by decide +kernel
theorem dX6_takes_16 : decode cX6_takes 16 = .ok (.iconst 0, 1) := by decide +kernel
theorem dX6_takes_17 : decode cX6_takes 17 = .ok (.putfield 131, 3) := by decide +kernel
theorem dX6_takes_20 : decode cX6_takes 20 = .ok (.aload_n 0, 1) := by decide +kernel
theorem dX6_takes_21 : decode cX6_takes 21 = .ok (.dup, 1) := by decide +kernel
theorem dX6_takes_22 : decode cX6_takes 22 = .ok (.getfield 128, 3) := by decide +kernel
theorem dX6_takes_25 : decode cX6_takes 25 = .ok (.aload_n 0, 1) := by decide +kernel
theorem dX6_takes_26 : decode cX6_takes 26 = .ok (.getfield 131, 3) := by decide +kernel
theorem dX6_takes_29 : decode cX6_takes 29 = .ok (.ifCond .eq 7, 3) := by decide +kernel
theorem dX6_takes_32 : decode cX6_takes 32 = .ok (.iconst 1, 1) := by decide +kernel
theorem dX6_takes_33 : decode cX6_takes 33 = .ok (.goto 4, 3) := by decide +kernel
theorem dX6_takes_36 : decode cX6_takes 36 = .ok (.iconst 0, 1) := by decide +kernel
theorem dX6_takes_37 : decode cX6_takes 37 = .ok (.iadd, 1) := by decide +kernel
theorem dX6_takes_38 : decode cX6_takes 38 = .ok (.putfield 128, 3) := by decide +kernel
theorem dX6_takes_41 : decode cX6_takes 41 = .ok (.return_, 1) := by decide +kernel
theorem dX6_takesNumber_0 : decode cX6_takesNumber 0 = .ok (.aload_n 0, 1) := by decide +kernel
theorem dX6_takesNumber_1 : decode cX6_takesNumber 1 = .ok (.invokevirtual 135, 3) := by decide +kernel
theorem dX6_takesNumber_4 : decode cX6_takesNumber 4 = .ok (.bipush 48, 2) := by decide +kernel
theorem dX6_takesNumber_6 : decode cX6_takesNumber 6 = .ok (.isub, 1) := by decide +kernel
theorem dX6_takesNumber_7 : decode cX6_takesNumber 7 = .ok (.istore_n 3, 1) := by decide +kernel
theorem dX6_takesNumber_8 : decode cX6_takesNumber 8 = .ok (.aload_n 0, 1) := by decide +kernel
theorem dX6_takesNumber_9 : decode cX6_takesNumber 9 = .ok (.iload_n 3, 1) := by decide +kernel
theorem dX6_takesNumber_10 : decode cX6_takesNumber 10 = .ok (.iload_n 1, 1) := by decide +kernel
theorem dX6_takesNumber_11 : decode cX6_takesNumber 11 = .ok (.bipush 9, 2) := by decide +kernel
theorem dX6_takesNumber_13 : decode cX6_takesNumber 13 = .ok (.invokestatic 30, 3) := by decide +kernel
theorem dX6_takesNumber_16 : decode cX6_takesNumber 16 = .ok (.ifCond .eq 12, 3) := by decide +kernel
theorem dX6_takesNumber_19 : decode cX6_takesNumber 19 = .ok (.iload_n 3, 1) := by decide +kernel
theorem dX6_takesNumber_20 : decode cX6_takesNumber 20 = .ok (.iload_n 2, 1) := by decide +kernel
theorem dX6_takesNumber_21 : decode cX6_takesNumber 21 = .ok (.if_icmp .gt 7, 3) := by decide +kernel
theorem dX6_takesNumber_24 : decode cX6_takesNumber 24 = .ok (.iconst 1, 1) := by decide +kernel
theorem dX6_takesNumber_25 : decode cX6_takesNumber 25 = .ok (.goto 4, 3) := by decide +kernel
theorem dX6_takesNumber_28 : decode cX6_takesNumber 28 = .ok (.iconst 0, 1) := by decide +kernel
theorem dX6_takesNumber_29 : decode cX6_takesNumber 29 = .ok (.invokevirtual 138, 3) := by decide +kernel
theorem dX6_takesNumber_32 : decode cX6_takesNumber 32 = .ok (.aload_n 0, 1) := by decide +kernel
theorem dX6_takesNumber_33 : decode cX6_takesNumber 33 = .ok (.getfield 131, 3) := by decide +kernel
theorem dX6_takesNumber_36 : decode cX6_takesNumber 36 = .ok (.ifCond .eq 63, 3) := by decide +kernel
theorem dX6_takesNumber_39 : decode cX6_takesNumber 39 = .ok (.iload_n 3, 1) := by decide +kernel
theorem dX6_takesNumber_40 : decode cX6_takesNumber 40 = .ok (.ifCond .le 59, 3) := by decide +kernel
theorem dX6_takesNumber_43 : decode cX6_takesNumber 43 = .ok (.aload_n 0, 1) := by decide +kernel
theorem dX6_takesNumber_44 : decode cX6_takesNumber 44 = .ok (.invokevirtual 135, 3) := by decide +kernel
theorem dX6_takesNumber_47 : decode cX6_takesNumber 47 = .ok (.bipush 48, 2) := by decide +kernel
theorem dX6_takesNumber_49 : decode cX6_takesNumber 49 = .ok (.bipush 57, 2) := by decide +kernel
theorem dX6_takesNumber_51 : decode cX6_takesNumber 51 = .ok (.invokestatic 30, 3) := by decide +kernel
theorem dX6_takesNumber_54 : decode cX6_takesNumber 54 = .ok (.ifCond .eq 45, 3) := by decide +kernel
theorem dX6_takesNumber_57 : decode cX6_takesNumber 57 = .ok (.bipush 10, 2) := by decide +kernel
theorem dX6_takesNumber_59 : decode cX6_takesNumber 59 = .ok (.iload_n 3, 1) := by decide +kernel
theorem dX6_takesNumber_60 : decode cX6_takesNumber 60 = .ok (.imul, 1) := by decide +kernel
theorem dX6_takesNumber_61 : decode cX6_takesNumber 61 = .ok (.aload_n 0, 1) := by decide +kernel
theorem dX6_takesNumber_62 : decode cX6_takesNumber 62 = .ok (.invokevirtual 135, 3) := by decide +kernel
theorem dX6_takesNumber_65 : decode cX6_takesNumber 65 = .ok (.iadd, 1) := by decide +kernel
theorem dX6_takesNumber_66 : decode cX6_takesNumber 66 = .ok (.bipush 48, 2) := by decide +kernel
theorem dX6_takesNumber_68 : decode cX6_takesNumber 68 = .ok (.isub, 1) := by decide +kernel
theorem dX6_takesNumber_69 : decode cX6_takesNumber 69 = .ok (.iload_n 2, 1) := by decide +kernel
theorem dX6_takesNumber_70 : decode cX6_takesNumber 70 = .ok (.if_icmp .gt 29, 3) := by decide +kernel
theorem dX6_takesNumber_73 : decode cX6_takesNumber 73 = .ok (.bipush 10, 2) := by decide +kernel
theorem dX6_takesNumber_75 : decode cX6_takesNumber 75 = .ok (.iload_n 3, 1) := by decide +kernel
theorem dX6_takesNumber_76 : decode cX6_takesNumber 76 = .ok (.imul, 1) := by decide +kernel
theorem dX6_takesNumber_77 : decode cX6_takesNumber 77 = .ok (.aload_n 0, 1) := by decide +kernel
theorem dX6_takesNumber_78 : decode cX6_takesNumber 78 = .ok (.invokevirtual 135, 3) := by decide +kernel
theorem dX6_takesNumber_81 : decode cX6_takesNumber 81 = .ok (.iadd, 1) := by decide +kernel
theorem dX6_takesNumber_82 : decode cX6_takesNumber 82 = .ok (.bipush 48, 2) := by decide +kernel
theorem dX6_takesNumber_84 : decode cX6_takesNumber 84 = .ok (.isub, 1) := by decide +kernel
theorem dX6_takesNumber_85 : decode cX6_takesNumber 85 = .ok (.istore_n 3, 1) := by decide +kernel
theorem dX6_takesNumber_86 : decode cX6_takesNumber 86 = .ok (.aload_n 0, 1) := by decide +kernel
theorem dX6_takesNumber_87 : decode cX6_takesNumber 87 = .ok (.dup, 1) := by decide +kernel
theorem dX6_takesNumber_88 : decode cX6_takesNumber 88 = .ok (.getfield 128, 3) := by decide +kernel
theorem dX6_takesNumber_91 : decode cX6_takesNumber 91 = .ok (.iconst 1, 1) := by decide +kernel
theorem dX6_takesNumber_92 : decode cX6_takesNumber 92 = .ok (.iadd, 1) := by decide +kernel
theorem dX6_takesNumber_93 : decode cX6_takesNumber 93 = .ok (.putfield 128, 3) := by decide +kernel
theorem dX6_takesNumber_96 : decode cX6_takesNumber 96 = .ok (.goto (-64), 3) := by decide +kernel
theorem dX6_takesNumber_99 : decode cX6_takesNumber 99 = .ok (.iload_n 3, 1) := by decide +kernel
theorem dX6_takesNumber_100 : decode cX6_takesNumber 100 = .ok (.ireturn, 1) := by decide +kernel
theorem dX6_takesCommand_0 : decode cX6_takesCommand 0 = .ok (.aload_n 0, 1) := by decide +kernel
theorem dX6_takesCommand_1 : decode cX6_takesCommand 1 = .ok (.aload_n 0, 1) := by decide +kernel
theorem dX6_takesCommand_2 : decode cX6_takesCommand 2 = .ok (.invokevirtual 135, 3) := by decide +kernel
theorem dX6_takesCommand_5 : decode cX6_takesCommand 5 = .ok (.putfield 142, 3) := by decide +kernel
theorem dX6_takesCommand_8 : decode cX6_takesCommand 8 = .ok (.aload_n 0, 1) := by decide +kernel
theorem dX6_takesCommand_9 : decode cX6_takesCommand 9 = .ok (.getfield 142, 3) := by decide +kernel
theorem dX6_takesCommand_12 : decode cX6_takesCommand 12 = .ok (.bipush 99, 2) := by decide +kernel
theorem dX6_takesCommand_14 : decode cX6_takesCommand 14 = .ok (.if_icmp .eq 12, 3) := by decide +kernel
theorem dX6_takesCommand_17 : decode cX6_takesCommand 17 = .ok (.aload_n 0, 1) := by decide +kernel
theorem dX6_takesCommand_18 : decode cX6_takesCommand 18 = .ok (.getfield 142, 3) := by decide +kernel
theorem dX6_takesCommand_21 : decode cX6_takesCommand 21 = .ok (.bipush 101, 2) := by decide +kernel
theorem dX6_takesCommand_23 : decode cX6_takesCommand 23 = .ok (.if_icmp .ne 7, 3) := by decide +kernel
theorem dX6_takesCommand_26 : decode cX6_takesCommand 26 = .ok (.iconst 1, 1) := by decide +kernel
theorem dX6_takesCommand_27 : decode cX6_takesCommand 27 = .ok (.goto 4, 3) := by decide +kernel
theorem dX6_takesCommand_30 : decode cX6_takesCommand 30 = .ok (.iconst 0, 1) := by decide +kernel
theorem dX6_takesCommand_31 : decode cX6_takesCommand 31 = .ok (.istore_n 1, 1) := by decide +kernel
theorem dX6_takesCommand_32 : decode cX6_takesCommand 32 = .ok (.aload_n 0, 1) := by decide +kernel
theorem dX6_takesCommand_33 : decode cX6_takesCommand 33 = .ok (.getfield 142, 3) := by decide +kernel
theorem dX6_takesCommand_36 : decode cX6_takesCommand 36 = .ok (.bipush 119, 2) := by decide +kernel
theorem dX6_takesCommand_38 : decode cX6_takesCommand 38 = .ok (.if_icmp .eq 21, 3) := by decide +kernel
theorem dX6_takesCommand_41 : decode cX6_takesCommand 41 = .ok (.aload_n 0, 1) := by decide +kernel
theorem dX6_takesCommand_42 : decode cX6_takesCommand 42 = .ok (.getfield 142, 3) := by decide +kernel
theorem dX6_takesCommand_45 : decode cX6_takesCommand 45 = .ok (.bipush 114, 2) := by decide +kernel
theorem dX6_takesCommand_47 : decode cX6_takesCommand 47 = .ok (.if_icmp .eq 12, 3) := by decide +kernel
theorem dX6_takesCommand_50 : decode cX6_takesCommand 50 = .ok (.aload_n 0, 1) := by decide +kernel
theorem dX6_takesCommand_51 : decode cX6_takesCommand 51 = .ok (.getfield 142, 3) := by decide +kernel
theorem dX6_takesCommand_54 : decode cX6_takesCommand 54 = .ok (.bipush 107, 2) := by decide +kernel
theorem dX6_takesCommand_56 : decode cX6_takesCommand 56 = .ok (.if_icmp .ne 7, 3) := by decide +kernel
theorem dX6_takesCommand_59 : decode cX6_takesCommand 59 = .ok (.iconst 1, 1) := by decide +kernel
theorem dX6_takesCommand_60 : decode cX6_takesCommand 60 = .ok (.goto 4, 3) := by decide +kernel
theorem dX6_takesCommand_63 : decode cX6_takesCommand 63 = .ok (.iconst 0, 1) := by decide +kernel
theorem dX6_takesCommand_64 : decode cX6_takesCommand 64 = .ok (.istore_n 2, 1) := by decide +kernel
theorem dX6_takesCommand_65 : decode cX6_takesCommand 65 = .ok (.aload_n 0, 1) := by decide +kernel
theorem dX6_takesCommand_66 : decode cX6_takesCommand 66 = .ok (.iload_n 1, 1) := by decide +kernel
theorem dX6_takesCommand_67 : decode cX6_takesCommand 67 = .ok (.ifCond .ne 25, 3) := by decide +kernel
theorem dX6_takesCommand_70 : decode cX6_takesCommand 70 = .ok (.iload_n 2, 1) := by decide +kernel
theorem dX6_takesCommand_71 : decode cX6_takesCommand 71 = .ok (.ifCond .ne 21, 3) := by decide +kernel
theorem dX6_takesCommand_74 : decode cX6_takesCommand 74 = .ok (.aload_n 0, 1) := by decide +kernel
theorem dX6_takesCommand_75 : decode cX6_takesCommand 75 = .ok (.getfield 142, 3) := by decide +kernel
theorem dX6_takesCommand_78 : decode cX6_takesCommand 78 = .ok (.bipush 98, 2) := by decide +kernel
theorem dX6_takesCommand_80 : decode cX6_takesCommand 80 = .ok (.if_icmp .eq 12, 3) := by decide +kernel
theorem dX6_takesCommand_83 : decode cX6_takesCommand 83 = .ok (.aload_n 0, 1) := by decide +kernel
theorem dX6_takesCommand_84 : decode cX6_takesCommand 84 = .ok (.getfield 142, 3) := by decide +kernel
theorem dX6_takesCommand_87 : decode cX6_takesCommand 87 = .ok (.bipush 100, 2) := by decide +kernel
theorem dX6_takesCommand_89 : decode cX6_takesCommand 89 = .ok (.if_icmp .ne 7, 3) := by decide +kernel
theorem dX6_takesCommand_92 : decode cX6_takesCommand 92 = .ok (.iconst 1, 1) := by decide +kernel
theorem dX6_takesCommand_93 : decode cX6_takesCommand 93 = .ok (.goto 4, 3) := by decide +kernel
theorem dX6_takesCommand_96 : decode cX6_takesCommand 96 = .ok (.iconst 0, 1) := by decide +kernel
theorem dX6_takesCommand_97 : decode cX6_takesCommand 97 = .ok (.invokevirtual 138, 3) := by decide +kernel
theorem dX6_takesCommand_100 : decode cX6_takesCommand 100 = .ok (.aload_n 0, 1) := by decide +kernel
theorem dX6_takesCommand_101 : decode cX6_takesCommand 101 = .ok (.getfield 131, 3) := by decide +kernel
theorem dX6_takesCommand_104 : decode cX6_takesCommand 104 = .ok (.ifCond .eq 7, 3) := by decide +kernel
theorem dX6_takesCommand_107 : decode cX6_takesCommand 107 = .ok (.iload_n 1, 1) := by decide +kernel
theorem dX6_takesCommand_108 : decode cX6_takesCommand 108 = .ok (.ifCond .eq 4, 3) := by decide +kernel
theorem dX6_takesCommand_111 : decode cX6_takesCommand 111 = .ok (.return_, 1) := by decide +kernel
theorem dX6_takesCommand_112 : decode cX6_takesCommand 112 = .ok (.aload_n 0, 1) := by decide +kernel
theorem dX6_takesCommand_113 : decode cX6_takesCommand 113 = .ok (.aload_n 0, 1) := by decide +kernel
theorem dX6_takesCommand_114 : decode cX6_takesCommand 114 = .ok (.iconst 0, 1) := by decide +kernel
theorem dX6_takesCommand_115 : decode cX6_takesCommand 115 = .ok (.aload_n 0, 1) := by decide +kernel
theorem dX6_takesCommand_116 : decode cX6_takesCommand 116 = .ok (.getfield 142, 3) := by decide +kernel
theorem dX6_takesCommand_119 : decode cX6_takesCommand 119 = .ok (.bipush 98, 2) := by decide +kernel
theorem dX6_takesCommand_121 : decode cX6_takesCommand 121 = .ok (.if_icmp .ne 7, 3) := by decide +kernel
theorem dX6_takesCommand_124 : decode cX6_takesCommand 124 = .ok (.iconst 1, 1) := by decide +kernel
theorem dX6_takesCommand_125 : decode cX6_takesCommand 125 = .ok (.goto 20, 3) := by decide +kernel
theorem dX6_takesCommand_128 : decode cX6_takesCommand 128 = .ok (.aload_n 0, 1) := by decide +kernel
theorem dX6_takesCommand_129 : decode cX6_takesCommand 129 = .ok (.getfield 142, 3) := by decide +kernel
theorem dX6_takesCommand_132 : decode cX6_takesCommand 132 = .ok (.bipush 100, 2) := by decide +kernel
theorem dX6_takesCommand_134 : decode cX6_takesCommand 134 = .ok (.if_icmp .ne 9, 3) := by decide +kernel
theorem dX6_takesCommand_137 : decode cX6_takesCommand 137 = .ok (.sipush 239, 3) := by decide +kernel
theorem dX6_takesCommand_140 : decode cX6_takesCommand 140 = .ok (.goto 5, 3) := by decide +kernel
theorem dX6_takesCommand_143 : decode cX6_takesCommand 143 = .ok (.bipush 19, 2) := by decide +kernel
theorem dX6_takesCommand_145 : decode cX6_takesCommand 145 = .ok (.invokevirtual 145, 3) := by decide +kernel
theorem dX6_takesCommand_148 : decode cX6_takesCommand 148 = .ok (.putfield 148, 3) := by decide +kernel
theorem dX6_takesCommand_151 : decode cX6_takesCommand 151 = .ok (.aload_n 0, 1) := by decide +kernel
theorem dX6_takesCommand_152 : decode cX6_takesCommand 152 = .ok (.getfield 142, 3) := by decide +kernel
theorem dX6_takesCommand_155 : decode cX6_takesCommand 155 = .ok (.bipush 119, 2) := by decide +kernel
theorem dX6_takesCommand_157 : decode cX6_takesCommand 157 = .ok (.if_icmp .ne 43, 3) := by decide +kernel
theorem dX6_takesCommand_160 : decode cX6_takesCommand 160 = .ok (.aload_n 0, 1) := by decide +kernel
theorem dX6_takesCommand_161 : decode cX6_takesCommand 161 = .ok (.aload_n 0, 1) := by decide +kernel
theorem dX6_takesCommand_162 : decode cX6_takesCommand 162 = .ok (.invokevirtual 135, 3) := by decide +kernel
theorem dX6_takesCommand_165 : decode cX6_takesCommand 165 = .ok (.bipush 61, 2) := by decide +kernel
theorem dX6_takesCommand_167 : decode cX6_takesCommand 167 = .ok (.if_icmp .ne 7, 3) := by decide +kernel
theorem dX6_takesCommand_170 : decode cX6_takesCommand 170 = .ok (.iconst 1, 1) := by decide +kernel
theorem dX6_takesCommand_171 : decode cX6_takesCommand 171 = .ok (.goto 4, 3) := by decide +kernel
theorem dX6_takesCommand_174 : decode cX6_takesCommand 174 = .ok (.iconst 0, 1) := by decide +kernel
theorem dX6_takesCommand_175 : decode cX6_takesCommand 175 = .ok (.invokevirtual 138, 3) := by decide +kernel
theorem dX6_takesCommand_178 : decode cX6_takesCommand 178 = .ok (.aload_n 0, 1) := by decide +kernel
theorem dX6_takesCommand_179 : decode cX6_takesCommand 179 = .ok (.aload_n 0, 1) := by decide +kernel
theorem dX6_takesCommand_180 : decode cX6_takesCommand 180 = .ok (.getfield 131, 3) := by decide +kernel
theorem dX6_takesCommand_183 : decode cX6_takesCommand 183 = .ok (.ifCond .eq 13, 3) := by decide +kernel
theorem dX6_takesCommand_186 : decode cX6_takesCommand 186 = .ok (.aload_n 0, 1) := by decide +kernel
theorem dX6_takesCommand_187 : decode cX6_takesCommand 187 = .ok (.iconst 1, 1) := by decide +kernel
theorem dX6_takesCommand_188 : decode cX6_takesCommand 188 = .ok (.bipush 40, 2) := by decide +kernel
theorem dX6_takesCommand_190 : decode cX6_takesCommand 190 = .ok (.invokevirtual 145, 3) := by decide +kernel
theorem dX6_takesCommand_193 : decode cX6_takesCommand 193 = .ok (.goto 4, 3) := by decide +kernel
theorem dX6_takesCommand_196 : decode cX6_takesCommand 196 = .ok (.iconst 0, 1) := by decide +kernel
theorem dX6_takesCommand_197 : decode cX6_takesCommand 197 = .ok (.putfield 151, 3) := by decide +kernel
theorem dX6_takesCommand_200 : decode cX6_takesCommand 200 = .ok (.aload_n 0, 1) := by decide +kernel
theorem dX6_takesCommand_201 : decode cX6_takesCommand 201 = .ok (.getfield 142, 3) := by decide +kernel
theorem dX6_takesCommand_204 : decode cX6_takesCommand 204 = .ok (.bipush 107, 2) := by decide +kernel
theorem dX6_takesCommand_206 : decode cX6_takesCommand 206 = .ok (.if_icmp .ne 43, 3) := by decide +kernel
theorem dX6_takesCommand_209 : decode cX6_takesCommand 209 = .ok (.aload_n 0, 1) := by decide +kernel
theorem dX6_takesCommand_210 : decode cX6_takesCommand 210 = .ok (.aload_n 0, 1) := by decide +kernel
theorem dX6_takesCommand_211 : decode cX6_takesCommand 211 = .ok (.invokevirtual 135, 3) := by decide +kernel
theorem dX6_takesCommand_214 : decode cX6_takesCommand 214 = .ok (.bipush 46, 2) := by decide +kernel
theorem dX6_takesCommand_216 : decode cX6_takesCommand 216 = .ok (.if_icmp .ne 7, 3) := by decide +kernel
theorem dX6_takesCommand_219 : decode cX6_takesCommand 219 = .ok (.iconst 1, 1) := by decide +kernel
theorem dX6_takesCommand_220 : decode cX6_takesCommand 220 = .ok (.goto 4, 3) := by decide +kernel
theorem dX6_takesCommand_223 : decode cX6_takesCommand 223 = .ok (.iconst 0, 1) := by decide +kernel
theorem dX6_takesCommand_224 : decode cX6_takesCommand 224 = .ok (.invokevirtual 138, 3) := by decide +kernel
theorem dX6_takesCommand_227 : decode cX6_takesCommand 227 = .ok (.aload_n 0, 1) := by decide +kernel
theorem dX6_takesCommand_228 : decode cX6_takesCommand 228 = .ok (.aload_n 0, 1) := by decide +kernel
theorem dX6_takesCommand_229 : decode cX6_takesCommand 229 = .ok (.getfield 131, 3) := by decide +kernel
theorem dX6_takesCommand_232 : decode cX6_takesCommand 232 = .ok (.ifCond .eq 13, 3) := by decide +kernel
theorem dX6_takesCommand_235 : decode cX6_takesCommand 235 = .ok (.aload_n 0, 1) := by decide +kernel
theorem dX6_takesCommand_236 : decode cX6_takesCommand 236 = .ok (.iconst 0, 1) := by decide +kernel
theorem dX6_takesCommand_237 : decode cX6_takesCommand 237 = .ok (.bipush 11, 2) := by decide +kernel
theorem dX6_takesCommand_239 : decode cX6_takesCommand 239 = .ok (.invokevirtual 145, 3) := by decide +kernel
theorem dX6_takesCommand_242 : decode cX6_takesCommand 242 = .ok (.goto 4, 3) := by decide +kernel
theorem dX6_takesCommand_245 : decode cX6_takesCommand 245 = .ok (.iconst 0, 1) := by decide +kernel
theorem dX6_takesCommand_246 : decode cX6_takesCommand 246 = .ok (.putfield 151, 3) := by decide +kernel
theorem dX6_takesCommand_249 : decode cX6_takesCommand 249 = .ok (.return_, 1) := by decide +kernel
theorem dX6_isText_0 : decode cX6_isText 0 = .ok (.aload_n 0, 1) := by decide +kernel
theorem dX6_isText_1 : decode cX6_isText 1 = .ok (.iconst 0, 1) := by decide +kernel
theorem dX6_isText_2 : decode cX6_isText 2 = .ok (.putfield 128, 3) := by decide +kernel
theorem dX6_isText_5 : decode cX6_isText 5 = .ok (.aload_n 0, 1) := by decide +kernel
theorem dX6_isText_6 : decode cX6_isText 6 = .ok (.iconst 1, 1) := by decide +kernel
theorem dX6_isText_7 : decode cX6_isText 7 = .ok (.putfield 131, 3) := by decide +kernel
theorem dX6_isText_10 : decode cX6_isText 10 = .ok (.aload_n 0, 1) := by decide +kernel
theorem dX6_isText_11 : decode cX6_isText 11 = .ok (.invokevirtual 154, 3) := by decide +kernel
theorem dX6_isText_14 : decode cX6_isText 14 = .ok (.aload_n 0, 1) := by decide +kernel
theorem dX6_isText_15 : decode cX6_isText 15 = .ok (.getfield 131, 3) := by decide +kernel
theorem dX6_isText_18 : decode cX6_isText 18 = .ok (.ifCond .eq 46, 3) := by decide +kernel
theorem dX6_isText_21 : decode cX6_isText 21 = .ok (.aload_n 0, 1) := by decide +kernel
theorem dX6_isText_22 : decode cX6_isText 22 = .ok (.getfield 128, 3) := by decide +kernel
theorem dX6_isText_25 : decode cX6_isText 25 = .ok (.aload_n 0, 1) := by decide +kernel
theorem dX6_isText_26 : decode cX6_isText 26 = .ok (.getfield 125, 3) := by decide +kernel
theorem dX6_isText_29 : decode cX6_isText 29 = .ok (.if_icmp .ge 35, 3) := by decide +kernel
theorem dX6_isText_32 : decode cX6_isText 32 = .ok (.aload_n 0, 1) := by decide +kernel
theorem dX6_isText_33 : decode cX6_isText 33 = .ok (.aload_n 0, 1) := by decide +kernel
theorem dX6_isText_34 : decode cX6_isText 34 = .ok (.invokevirtual 135, 3) := by decide +kernel
theorem dX6_isText_37 : decode cX6_isText 37 = .ok (.bipush 59, 2) := by decide +kernel
theorem dX6_isText_39 : decode cX6_isText 39 = .ok (.if_icmp .ne 7, 3) := by decide +kernel
theorem dX6_isText_42 : decode cX6_isText 42 = .ok (.iconst 1, 1) := by decide +kernel
theorem dX6_isText_43 : decode cX6_isText 43 = .ok (.goto 4, 3) := by decide +kernel
theorem dX6_isText_46 : decode cX6_isText 46 = .ok (.iconst 0, 1) := by decide +kernel
theorem dX6_isText_47 : decode cX6_isText 47 = .ok (.invokevirtual 138, 3) := by decide +kernel
theorem dX6_isText_50 : decode cX6_isText 50 = .ok (.aload_n 0, 1) := by decide +kernel
theorem dX6_isText_51 : decode cX6_isText 51 = .ok (.getfield 131, 3) := by decide +kernel
theorem dX6_isText_54 : decode cX6_isText 54 = .ok (.ifCond .eq (-40), 3) := by decide +kernel
theorem dX6_isText_57 : decode cX6_isText 57 = .ok (.aload_n 0, 1) := by decide +kernel
theorem dX6_isText_58 : decode cX6_isText 58 = .ok (.invokevirtual 154, 3) := by decide +kernel
theorem dX6_isText_61 : decode cX6_isText 61 = .ok (.goto (-47), 3) := by decide +kernel
theorem dX6_isText_64 : decode cX6_isText 64 = .ok (.aload_n 0, 1) := by decide +kernel
theorem dX6_isText_65 : decode cX6_isText 65 = .ok (.getfield 131, 3) := by decide +kernel
theorem dX6_isText_68 : decode cX6_isText 68 = .ok (.ireturn, 1) := by decide +kernel
theorem dX6_fault_0 : decode cX6_fault 0 = .ok (.aload_n 0, 1) := by decide +kernel
theorem dX6_fault_1 : decode cX6_fault 1 = .ok (.invokevirtual 157, 3) := by decide +kernel
theorem dX6_fault_4 : decode cX6_fault 4 = .ok (.ifCond .eq 8, 3) := by decide +kernel
theorem dX6_fault_7 : decode cX6_fault 7 = .ok (.bipush (-6), 2) := by decide +kernel
theorem dX6_fault_9 : decode cX6_fault 9 = .ok (.goto 7, 3) := by decide +kernel
theorem dX6_fault_12 : decode cX6_fault 12 = .ok (.aload_n 0, 1) := by decide +kernel
theorem dX6_fault_13 : decode cX6_fault 13 = .ok (.getfield 128, 3) := by decide +kernel
theorem dX6_fault_16 : decode cX6_fault 16 = .ok (.ireturn, 1) := by decide +kernel
theorem dX6_doesCommand_0 : decode cX6_doesCommand 0 = .ok (.aload_n 0, 1) := by decide +kernel
theorem dX6_doesCommand_1 : decode cX6_doesCommand 1 = .ok (.getfield 142, 3) := by decide +kernel
theorem dX6_doesCommand_4 : decode cX6_doesCommand 4 = .ok (.lookupswitch 114 #[(98, 60), (99, 104), (101, 109), (107, 91), (114, 82), (119, 69)], 60) := by decide +kernel
theorem dX6_doesCommand_64 : decode cX6_doesCommand 64 = .ok (.aload_n 0, 1) := by decide +kernel
theorem dX6_doesCommand_65 : decode cX6_doesCommand 65 = .ok (.aload_n 0, 1) := by decide +kernel
theorem dX6_doesCommand_66 : decode cX6_doesCommand 66 = .ok (.getfield 148, 3) := by decide +kernel
theorem dX6_doesCommand_69 : decode cX6_doesCommand 69 = .ok (.invokevirtual 95, 3) := by decide +kernel
theorem dX6_doesCommand_72 : decode cX6_doesCommand 72 = .ok (.ireturn, 1) := by decide +kernel
theorem dX6_doesCommand_73 : decode cX6_doesCommand 73 = .ok (.aload_n 0, 1) := by decide +kernel
theorem dX6_doesCommand_74 : decode cX6_doesCommand 74 = .ok (.aload_n 0, 1) := by decide +kernel
theorem dX6_doesCommand_75 : decode cX6_doesCommand 75 = .ok (.getfield 148, 3) := by decide +kernel
theorem dX6_doesCommand_78 : decode cX6_doesCommand 78 = .ok (.aload_n 0, 1) := by decide +kernel
theorem dX6_doesCommand_79 : decode cX6_doesCommand 79 = .ok (.getfield 151, 3) := by decide +kernel
theorem dX6_doesCommand_82 : decode cX6_doesCommand 82 = .ok (.invokevirtual 101, 3) := by decide +kernel
theorem dX6_doesCommand_85 : decode cX6_doesCommand 85 = .ok (.ireturn, 1) := by decide +kernel
theorem dX6_doesCommand_86 : decode cX6_doesCommand 86 = .ok (.aload_n 0, 1) := by decide +kernel
theorem dX6_doesCommand_87 : decode cX6_doesCommand 87 = .ok (.aload_n 0, 1) := by decide +kernel
theorem dX6_doesCommand_88 : decode cX6_doesCommand 88 = .ok (.getfield 148, 3) := by decide +kernel
theorem dX6_doesCommand_91 : decode cX6_doesCommand 91 = .ok (.invokevirtual 104, 3) := by decide +kernel
theorem dX6_doesCommand_94 : decode cX6_doesCommand 94 = .ok (.ireturn, 1) := by decide +kernel
theorem dX6_doesCommand_95 : decode cX6_doesCommand 95 = .ok (.aload_n 0, 1) := by decide +kernel
theorem dX6_doesCommand_96 : decode cX6_doesCommand 96 = .ok (.aload_n 0, 1) := by decide +kernel
theorem dX6_doesCommand_97 : decode cX6_doesCommand 97 = .ok (.getfield 148, 3) := by decide +kernel
theorem dX6_doesCommand_100 : decode cX6_doesCommand 100 = .ok (.aload_n 0, 1) := by decide +kernel
theorem dX6_doesCommand_101 : decode cX6_doesCommand 101 = .ok (.getfield 151, 3) := by decide +kernel
theorem dX6_doesCommand_104 : decode cX6_doesCommand 104 = .ok (.invokevirtual 107, 3) := by decide +kernel
theorem dX6_doesCommand_107 : decode cX6_doesCommand 107 = .ok (.ireturn, 1) := by decide +kernel
theorem dX6_doesCommand_108 : decode cX6_doesCommand 108 = .ok (.aload_n 0, 1) := by decide +kernel
theorem dX6_doesCommand_109 : decode cX6_doesCommand 109 = .ok (.invokevirtual 110, 3) := by decide +kernel
theorem dX6_doesCommand_112 : decode cX6_doesCommand 112 = .ok (.ireturn, 1) := by decide +kernel
theorem dX6_doesCommand_113 : decode cX6_doesCommand 113 = .ok (.aload_n 0, 1) := by decide +kernel
theorem dX6_doesCommand_114 : decode cX6_doesCommand 114 = .ok (.invokevirtual 113, 3) := by decide +kernel
theorem dX6_doesCommand_117 : decode cX6_doesCommand 117 = .ok (.ireturn, 1) := by decide +kernel
theorem dX6_doesCommand_118 : decode cX6_doesCommand 118 = .ok (.aload_n 0, 1) := by decide +kernel
theorem dX6_doesCommand_119 : decode cX6_doesCommand 119 = .ok (.aload_n 0, 1) := by decide +kernel
theorem dX6_doesCommand_120 : decode cX6_doesCommand 120 = .ok (.getfield 148, 3) := by decide +kernel
theorem dX6_doesCommand_123 : decode cX6_doesCommand 123 = .ok (.invokevirtual 119, 3) := by decide +kernel
theorem dX6_doesCommand_126 : decode cX6_doesCommand 126 = .ok (.ireturn, 1) := by decide +kernel
theorem dX6_run_0 : decode cX6_run 0 = .ok (.aload_n 0, 1) := by decide +kernel
theorem dX6_run_1 : decode cX6_run 1 = .ok (.invokevirtual 157, 3) := by decide +kernel
theorem dX6_run_4 : decode cX6_run 4 = .ok (.ifCond .ne 6, 3) := by decide +kernel
theorem dX6_run_7 : decode cX6_run 7 = .ok (.bipush (-3), 2) := by decide +kernel
theorem dX6_run_9 : decode cX6_run 9 = .ok (.ireturn, 1) := by decide +kernel
theorem dX6_run_10 : decode cX6_run 10 = .ok (.aload_n 0, 1) := by decide +kernel
theorem dX6_run_11 : decode cX6_run 11 = .ok (.invokevirtual 92, 3) := by decide +kernel
theorem dX6_run_14 : decode cX6_run 14 = .ok (.aload_n 0, 1) := by decide +kernel
theorem dX6_run_15 : decode cX6_run 15 = .ok (.iconst 0, 1) := by decide +kernel
theorem dX6_run_16 : decode cX6_run 16 = .ok (.putfield 128, 3) := by decide +kernel
theorem dX6_run_19 : decode cX6_run 19 = .ok (.iconst 0, 1) := by decide +kernel
theorem dX6_run_20 : decode cX6_run 20 = .ok (.istore_n 1, 1) := by decide +kernel
theorem dX6_run_21 : decode cX6_run 21 = .ok (.iconst 1, 1) := by decide +kernel
theorem dX6_run_22 : decode cX6_run 22 = .ok (.istore_n 2, 1) := by decide +kernel
theorem dX6_run_23 : decode cX6_run 23 = .ok (.iload_n 2, 1) := by decide +kernel
theorem dX6_run_24 : decode cX6_run 24 = .ok (.ifCond .eq 56, 3) := by decide +kernel
theorem dX6_run_27 : decode cX6_run 27 = .ok (.aload_n 0, 1) := by decide +kernel
theorem dX6_run_28 : decode cX6_run 28 = .ok (.getfield 128, 3) := by decide +kernel
theorem dX6_run_31 : decode cX6_run 31 = .ok (.aload_n 0, 1) := by decide +kernel
theorem dX6_run_32 : decode cX6_run 32 = .ok (.getfield 125, 3) := by decide +kernel
theorem dX6_run_35 : decode cX6_run 35 = .ok (.if_icmp .ge 45, 3) := by decide +kernel
theorem dX6_run_38 : decode cX6_run 38 = .ok (.aload_n 0, 1) := by decide +kernel
theorem dX6_run_39 : decode cX6_run 39 = .ok (.invokevirtual 154, 3) := by decide +kernel
theorem dX6_run_42 : decode cX6_run 42 = .ok (.aload_n 0, 1) := by decide +kernel
theorem dX6_run_43 : decode cX6_run 43 = .ok (.dup, 1) := by decide +kernel
theorem dX6_run_44 : decode cX6_run 44 = .ok (.getfield 128, 3) := by decide +kernel
theorem dX6_run_47 : decode cX6_run 47 = .ok (.iconst 1, 1) := by decide +kernel
theorem dX6_run_48 : decode cX6_run 48 = .ok (.iadd, 1) := by decide +kernel
theorem dX6_run_49 : decode cX6_run 49 = .ok (.putfield 128, 3) := by decide +kernel
theorem dX6_run_52 : decode cX6_run 52 = .ok (.aload_n 0, 1) := by decide +kernel
theorem dX6_run_53 : decode cX6_run 53 = .ok (.invokevirtual 161, 3) := by decide +kernel
theorem dX6_run_56 : decode cX6_run 56 = .ok (.ifCond .lt 7, 3) := by decide +kernel
theorem dX6_run_59 : decode cX6_run 59 = .ok (.iconst 1, 1) := by decide +kernel
theorem dX6_run_60 : decode cX6_run 60 = .ok (.goto 4, 3) := by decide +kernel
theorem dX6_run_63 : decode cX6_run 63 = .ok (.iconst 0, 1) := by decide +kernel
theorem dX6_run_64 : decode cX6_run 64 = .ok (.istore_n 2, 1) := by decide +kernel
theorem dX6_run_65 : decode cX6_run 65 = .ok (.iload_n 1, 1) := by decide +kernel
theorem dX6_run_66 : decode cX6_run 66 = .ok (.iload_n 2, 1) := by decide +kernel
theorem dX6_run_67 : decode cX6_run 67 = .ok (.ifCond .eq 7, 3) := by decide +kernel
theorem dX6_run_70 : decode cX6_run 70 = .ok (.iconst 1, 1) := by decide +kernel
theorem dX6_run_71 : decode cX6_run 71 = .ok (.goto 4, 3) := by decide +kernel
theorem dX6_run_74 : decode cX6_run 74 = .ok (.iconst 0, 1) := by decide +kernel
theorem dX6_run_75 : decode cX6_run 75 = .ok (.iadd, 1) := by decide +kernel
theorem dX6_run_76 : decode cX6_run 76 = .ok (.istore_n 1, 1) := by decide +kernel
theorem dX6_run_77 : decode cX6_run 77 = .ok (.goto (-54), 3) := by decide +kernel
theorem dX6_run_80 : decode cX6_run 80 = .ok (.aload_n 0, 1) := by decide +kernel
theorem dX6_run_81 : decode cX6_run 81 = .ok (.iload_n 1, 1) := by decide +kernel
theorem dX6_run_82 : decode cX6_run 82 = .ok (.invokevirtual 98, 3) := by decide +kernel
theorem dX6_run_85 : decode cX6_run 85 = .ok (.ireturn, 1) := by decide +kernel
theorem dX6_undo_0 : decode cX6_undo 0 = .ok (.aload_n 0, 1) := by decide +kernel
theorem dX6_undo_1 : decode cX6_undo 1 = .ok (.getfield 26, 3) := by decide +kernel
theorem dX6_undo_4 : decode cX6_undo 4 = .ok (.ifCond .ne 6, 3) := by decide +kernel
theorem dX6_undo_7 : decode cX6_undo 7 = .ok (.bipush (-6), 2) := by decide +kernel
theorem dX6_undo_9 : decode cX6_undo 9 = .ok (.ireturn, 1) := by decide +kernel
theorem dX6_undo_10 : decode cX6_undo 10 = .ok (.aload_n 0, 1) := by decide +kernel
theorem dX6_undo_11 : decode cX6_undo 11 = .ok (.dup, 1) := by decide +kernel
theorem dX6_undo_12 : decode cX6_undo 12 = .ok (.getfield 26, 3) := by decide +kernel
theorem dX6_undo_15 : decode cX6_undo 15 = .ok (.iconst 1, 1) := by decide +kernel
theorem dX6_undo_16 : decode cX6_undo 16 = .ok (.isub, 1) := by decide +kernel
theorem dX6_undo_17 : decode cX6_undo 17 = .ok (.putfield 26, 3) := by decide +kernel
theorem dX6_undo_20 : decode cX6_undo 20 = .ok (.aload_n 0, 1) := by decide +kernel
theorem dX6_undo_21 : decode cX6_undo 21 = .ok (.getfield 16, 3) := by decide +kernel
theorem dX6_undo_24 : decode cX6_undo 24 = .ok (.sipush 344, 3) := by decide +kernel
theorem dX6_undo_27 : decode cX6_undo 27 = .ok (.aload_n 0, 1) := by decide +kernel
theorem dX6_undo_28 : decode cX6_undo 28 = .ok (.getfield 26, 3) := by decide +kernel
theorem dX6_undo_31 : decode cX6_undo 31 = .ok (.imul, 1) := by decide +kernel
theorem dX6_undo_32 : decode cX6_undo 32 = .ok (.aload_n 0, 1) := by decide +kernel
theorem dX6_undo_33 : decode cX6_undo 33 = .ok (.getfield 7, 3) := by decide +kernel
theorem dX6_undo_36 : decode cX6_undo 36 = .ok (.iconst 0, 1) := by decide +kernel
theorem dX6_undo_37 : decode cX6_undo 37 = .ok (.invokestatic 22, 3) := by decide +kernel
theorem dX6_undo_40 : decode cX6_undo 40 = .ok (.aload_n 0, 1) := by decide +kernel
theorem dX6_undo_41 : decode cX6_undo 41 = .ok (.getfield 26, 3) := by decide +kernel
theorem dX6_undo_44 : decode cX6_undo 44 = .ok (.ireturn, 1) := by decide +kernel
theorem dX6_sessions_0 : decode cX6_sessions 0 = .ok (.aload_n 0, 1) := by decide +kernel
theorem dX6_sessions_1 : decode cX6_sessions 1 = .ok (.getfield 7, 3) := by decide +kernel
theorem dX6_sessions_4 : decode cX6_sessions 4 = .ok (.iconst 1, 1) := by decide +kernel
theorem dX6_sessions_5 : decode cX6_sessions 5 = .ok (.iaload, 1) := by decide +kernel
theorem dX6_sessions_6 : decode cX6_sessions 6 = .ok (.ireturn, 1) := by decide +kernel
theorem dX6_session_0 : decode cX6_session 0 = .ok (.aload_n 0, 1) := by decide +kernel
theorem dX6_session_1 : decode cX6_session 1 = .ok (.iload_n 1, 1) := by decide +kernel
theorem dX6_session_2 : decode cX6_session 2 = .ok (.invokevirtual 80, 3) := by decide +kernel
theorem dX6_session_5 : decode cX6_session 5 = .ok (.ifCond .ne 5, 3) := by decide +kernel
theorem dX6_session_8 : decode cX6_session 8 = .ok (.iconst (-1), 1) := by decide +kernel
theorem dX6_session_9 : decode cX6_session 9 = .ok (.ireturn, 1) := by decide +kernel
theorem dX6_session_10 : decode cX6_session 10 = .ok (.iload_n 2, 1) := by decide +kernel
theorem dX6_session_11 : decode cX6_session 11 = .ok (.tableswitch 79 0 7 #[45, 45, 45, 45, 45, 52, 58, 72], 45) := by decide +kernel
theorem dX6_session_56 : decode cX6_session 56 = .ok (.aload_n 0, 1) := by decide +kernel
theorem dX6_session_57 : decode cX6_session 57 = .ok (.iload_n 1, 1) := by decide +kernel
theorem dX6_session_58 : decode cX6_session 58 = .ok (.iload_n 2, 1) := by decide +kernel
theorem dX6_session_59 : decode cX6_session 59 = .ok (.invokevirtual 34, 3) := by decide +kernel
theorem dX6_session_62 : decode cX6_session 62 = .ok (.ireturn, 1) := by decide +kernel
theorem dX6_session_63 : decode cX6_session 63 = .ok (.aload_n 0, 1) := by decide +kernel
theorem dX6_session_64 : decode cX6_session 64 = .ok (.iload_n 1, 1) := by decide +kernel
theorem dX6_session_65 : decode cX6_session 65 = .ok (.invokevirtual 77, 3) := by decide +kernel
theorem dX6_session_68 : decode cX6_session 68 = .ok (.ireturn, 1) := by decide +kernel
theorem dX6_session_69 : decode cX6_session 69 = .ok (.aload_n 0, 1) := by decide +kernel
theorem dX6_session_70 : decode cX6_session 70 = .ok (.iload_n 1, 1) := by decide +kernel
theorem dX6_session_71 : decode cX6_session 71 = .ok (.invokevirtual 49, 3) := by decide +kernel
theorem dX6_session_74 : decode cX6_session 74 = .ok (.ifCond .eq 7, 3) := by decide +kernel
theorem dX6_session_77 : decode cX6_session 77 = .ok (.iconst 1, 1) := by decide +kernel
theorem dX6_session_78 : decode cX6_session 78 = .ok (.goto 4, 3) := by decide +kernel
theorem dX6_session_81 : decode cX6_session 81 = .ok (.iconst 0, 1) := by decide +kernel
theorem dX6_session_82 : decode cX6_session 82 = .ok (.ireturn, 1) := by decide +kernel
theorem dX6_session_83 : decode cX6_session 83 = .ok (.aload_n 0, 1) := by decide +kernel
theorem dX6_session_84 : decode cX6_session 84 = .ok (.iload_n 1, 1) := by decide +kernel
theorem dX6_session_85 : decode cX6_session 85 = .ok (.iconst 5, 1) := by decide +kernel
theorem dX6_session_86 : decode cX6_session 86 = .ok (.invokevirtual 34, 3) := by decide +kernel
theorem dX6_session_89 : decode cX6_session 89 = .ok (.ireturn, 1) := by decide +kernel
theorem dX6_session_90 : decode cX6_session 90 = .ok (.bipush (-2), 2) := by decide +kernel
theorem dX6_session_92 : decode cX6_session 92 = .ok (.ireturn, 1) := by decide +kernel
theorem dX6_entry_0 : decode cX6_entry 0 = .ok (.aload_n 0, 1) := by decide +kernel
theorem dX6_entry_1 : decode cX6_entry 1 = .ok (.iload_n 1, 1) := by decide +kernel
theorem dX6_entry_2 : decode cX6_entry 2 = .ok (.invokevirtual 80, 3) := by decide +kernel
theorem dX6_entry_5 : decode cX6_entry 5 = .ok (.ifCond .eq 10, 3) := by decide +kernel
theorem dX6_entry_8 : decode cX6_entry 8 = .ok (.iload_n 2, 1) := by decide +kernel
theorem dX6_entry_9 : decode cX6_entry 9 = .ok (.invokestatic 74, 3) := by decide +kernel
theorem dX6_entry_12 : decode cX6_entry 12 = .ok (.ifCond .ne 5, 3) := by decide +kernel
theorem dX6_entry_15 : decode cX6_entry 15 = .ok (.iconst (-1), 1) := by decide +kernel
theorem dX6_entry_16 : decode cX6_entry 16 = .ok (.ireturn, 1) := by decide +kernel
theorem dX6_entry_17 : decode cX6_entry 17 = .ok (.iload_n 3, 1) := by decide +kernel
theorem dX6_entry_18 : decode cX6_entry 18 = .ok (.iconst 0, 1) := by decide +kernel
theorem dX6_entry_19 : decode cX6_entry 19 = .ok (.iconst 2, 1) := by decide +kernel
theorem dX6_entry_20 : decode cX6_entry 20 = .ok (.invokestatic 30, 3) := by decide +kernel
theorem dX6_entry_23 : decode cX6_entry 23 = .ok (.ifCond .ne 6, 3) := by decide +kernel
theorem dX6_entry_26 : decode cX6_entry 26 = .ok (.bipush (-2), 2) := by decide +kernel
theorem dX6_entry_28 : decode cX6_entry 28 = .ok (.ireturn, 1) := by decide +kernel
theorem dX6_entry_29 : decode cX6_entry 29 = .ok (.aload_n 0, 1) := by decide +kernel
theorem dX6_entry_30 : decode cX6_entry 30 = .ok (.iload_n 1, 1) := by decide +kernel
theorem dX6_entry_31 : decode cX6_entry 31 = .ok (.iload_n 2, 1) := by decide +kernel
theorem dX6_entry_32 : decode cX6_entry 32 = .ok (.invokevirtual 38, 3) := by decide +kernel
theorem dX6_entry_35 : decode cX6_entry 35 = .ok (.istore 4, 2) := by decide +kernel
theorem dX6_entry_37 : decode cX6_entry 37 = .ok (.iload 4, 2) := by decide +kernel
theorem dX6_entry_39 : decode cX6_entry 39 = .ok (.ifCond .ne 6, 3) := by decide +kernel
theorem dX6_entry_42 : decode cX6_entry 42 = .ok (.bipush (-6), 2) := by decide +kernel
theorem dX6_entry_44 : decode cX6_entry 44 = .ok (.ireturn, 1) := by decide +kernel
theorem dX6_entry_45 : decode cX6_entry 45 = .ok (.iload_n 3, 1) := by decide +kernel
theorem dX6_entry_46 : decode cX6_entry 46 = .ok (.ifCond .ne 11, 3) := by decide +kernel
theorem dX6_entry_49 : decode cX6_entry 49 = .ok (.iload 4, 2) := by decide +kernel
theorem dX6_entry_51 : decode cX6_entry 51 = .ok (.invokestatic 52, 3) := by decide +kernel
theorem dX6_entry_54 : decode cX6_entry 54 = .ok (.goto 25, 3) := by decide +kernel
theorem dX6_entry_57 : decode cX6_entry 57 = .ok (.iload_n 3, 1) := by decide +kernel
theorem dX6_entry_58 : decode cX6_entry 58 = .ok (.iconst 1, 1) := by decide +kernel
theorem dX6_entry_59 : decode cX6_entry 59 = .ok (.if_icmp .ne 11, 3) := by decide +kernel
theorem dX6_entry_62 : decode cX6_entry 62 = .ok (.iload 4, 2) := by decide +kernel
theorem dX6_entry_64 : decode cX6_entry 64 = .ok (.invokestatic 56, 3) := by decide +kernel
theorem dX6_entry_67 : decode cX6_entry 67 = .ok (.goto 12, 3) := by decide +kernel
theorem dX6_entry_70 : decode cX6_entry 70 = .ok (.aload_n 0, 1) := by decide +kernel
theorem dX6_entry_71 : decode cX6_entry 71 = .ok (.iload 4, 2) := by decide +kernel
theorem dX6_entry_73 : decode cX6_entry 73 = .ok (.invokestatic 52, 3) := by decide +kernel
theorem dX6_entry_76 : decode cX6_entry 76 = .ok (.invokevirtual 164, 3) := by decide +kernel
theorem dX6_entry_79 : decode cX6_entry 79 = .ok (.ireturn, 1) := by decide +kernel
theorem dX6_valid_0 : decode cX6_valid 0 = .ok (.aload_n 0, 1) := by decide +kernel
theorem dX6_valid_1 : decode cX6_valid 1 = .ok (.invokevirtual 67, 3) := by decide +kernel
theorem dX6_valid_4 : decode cX6_valid 4 = .ok (.ireturn, 1) := by decide +kernel
theorem dX6_next_0 : decode cX6_next 0 = .ok (.aload_n 0, 1) := by decide +kernel
theorem dX6_next_1 : decode cX6_next 1 = .ok (.getfield 7, 3) := by decide +kernel
theorem dX6_next_4 : decode cX6_next 4 = .ok (.iconst 0, 1) := by decide +kernel
theorem dX6_next_5 : decode cX6_next 5 = .ok (.iaload, 1) := by decide +kernel
theorem dX6_next_6 : decode cX6_next 6 = .ok (.ireturn, 1) := by decide +kernel
theorem dX6_damaged_0 : decode cX6_damaged 0 = .ok (.iload_n 1, 1) := by decide +kernel
theorem dX6_damaged_1 : decode cX6_damaged 1 = .ok (.invokestatic 86, 3) := by decide +kernel
theorem dX6_damaged_4 : decode cX6_damaged 4 = .ok (.ifCond .ne 7, 3) := by decide +kernel
theorem dX6_damaged_7 : decode cX6_damaged 7 = .ok (.iconst (-1), 1) := by decide +kernel
theorem dX6_damaged_8 : decode cX6_damaged 8 = .ok (.goto 16, 3) := by decide +kernel
theorem dX6_damaged_11 : decode cX6_damaged 11 = .ok (.aload_n 0, 1) := by decide +kernel
theorem dX6_damaged_12 : decode cX6_damaged 12 = .ok (.iload_n 1, 1) := by decide +kernel
theorem dX6_damaged_13 : decode cX6_damaged 13 = .ok (.invokevirtual 41, 3) := by decide +kernel
theorem dX6_damaged_16 : decode cX6_damaged 16 = .ok (.ifCond .eq 7, 3) := by decide +kernel
theorem dX6_damaged_19 : decode cX6_damaged 19 = .ok (.iconst 1, 1) := by decide +kernel
theorem dX6_damaged_20 : decode cX6_damaged 20 = .ok (.goto 4, 3) := by decide +kernel
theorem dX6_damaged_23 : decode cX6_damaged 23 = .ok (.iconst 0, 1) := by decide +kernel
theorem dX6_damaged_24 : decode cX6_damaged 24 = .ok (.ireturn, 1) := by decide +kernel
theorem dX6_use_0 : decode cX6_use 0 = .ok (.iload_n 1, 1) := by decide +kernel
theorem dX6_use_1 : decode cX6_use 1 = .ok (.invokestatic 86, 3) := by decide +kernel
theorem dX6_use_4 : decode cX6_use 4 = .ok (.ifCond .ne 5, 3) := by decide +kernel
theorem dX6_use_7 : decode cX6_use 7 = .ok (.iconst (-1), 1) := by decide +kernel
theorem dX6_use_8 : decode cX6_use 8 = .ok (.ireturn, 1) := by decide +kernel
theorem dX6_use_9 : decode cX6_use 9 = .ok (.aload_n 0, 1) := by decide +kernel
theorem dX6_use_10 : decode cX6_use 10 = .ok (.iload_n 1, 1) := by decide +kernel
theorem dX6_use_11 : decode cX6_use 11 = .ok (.invokevirtual 164, 3) := by decide +kernel
theorem dX6_use_14 : decode cX6_use 14 = .ok (.istore_n 2, 1) := by decide +kernel
theorem dX6_use_15 : decode cX6_use 15 = .ok (.iload_n 2, 1) := by decide +kernel
theorem dX6_use_16 : decode cX6_use 16 = .ok (.ifCond .ge 5, 3) := by decide +kernel
theorem dX6_use_19 : decode cX6_use 19 = .ok (.iconst 0, 1) := by decide +kernel
theorem dX6_use_20 : decode cX6_use 20 = .ok (.ireturn, 1) := by decide +kernel
theorem dX6_use_21 : decode cX6_use 21 = .ok (.iload_n 1, 1) := by decide +kernel
theorem dX6_use_22 : decode cX6_use 22 = .ok (.aload_n 0, 1) := by decide +kernel
theorem dX6_use_23 : decode cX6_use 23 = .ok (.iload_n 2, 1) := by decide +kernel
theorem dX6_use_24 : decode cX6_use 24 = .ok (.iconst 1, 1) := by decide +kernel
theorem dX6_use_25 : decode cX6_use 25 = .ok (.invokevirtual 34, 3) := by decide +kernel
theorem dX6_use_28 : decode cX6_use 28 = .ok (.isub, 1) := by decide +kernel
theorem dX6_use_29 : decode cX6_use 29 = .ok (.istore_n 3, 1) := by decide +kernel
theorem dX6_use_30 : decode cX6_use 30 = .ok (.aload_n 0, 1) := by decide +kernel
theorem dX6_use_31 : decode cX6_use 31 = .ok (.iload_n 2, 1) := by decide +kernel
theorem dX6_use_32 : decode cX6_use 32 = .ok (.iconst 0, 1) := by decide +kernel
theorem dX6_use_33 : decode cX6_use 33 = .ok (.invokevirtual 34, 3) := by decide +kernel
theorem dX6_use_36 : decode cX6_use 36 = .ok (.iconst 1, 1) := by decide +kernel
theorem dX6_use_37 : decode cX6_use 37 = .ok (.if_icmp .ne 24, 3) := by decide +kernel
theorem dX6_use_40 : decode cX6_use 40 = .ok (.iload_n 3, 1) := by decide +kernel
theorem dX6_use_41 : decode cX6_use 41 = .ok (.aload_n 0, 1) := by decide +kernel
theorem dX6_use_42 : decode cX6_use 42 = .ok (.iload_n 2, 1) := by decide +kernel
theorem dX6_use_43 : decode cX6_use 43 = .ok (.iconst 2, 1) := by decide +kernel
theorem dX6_use_44 : decode cX6_use 44 = .ok (.invokevirtual 34, 3) := by decide +kernel
theorem dX6_use_47 : decode cX6_use 47 = .ok (.aload_n 0, 1) := by decide +kernel
theorem dX6_use_48 : decode cX6_use 48 = .ok (.iload_n 2, 1) := by decide +kernel
theorem dX6_use_49 : decode cX6_use 49 = .ok (.iconst 4, 1) := by decide +kernel
theorem dX6_use_50 : decode cX6_use 50 = .ok (.invokevirtual 34, 3) := by decide +kernel
theorem dX6_use_53 : decode cX6_use 53 = .ok (.isub, 1) := by decide +kernel
theorem dX6_use_54 : decode cX6_use 54 = .ok (.if_icmp .lt 7, 3) := by decide +kernel
theorem dX6_use_57 : decode cX6_use 57 = .ok (.iconst 1, 1) := by decide +kernel
theorem dX6_use_58 : decode cX6_use 58 = .ok (.goto 4, 3) := by decide +kernel
theorem dX6_use_61 : decode cX6_use 61 = .ok (.iconst 0, 1) := by decide +kernel
theorem dX6_use_62 : decode cX6_use 62 = .ok (.istore 4, 2) := by decide +kernel
theorem dX6_use_64 : decode cX6_use 64 = .ok (.iload_n 3, 1) := by decide +kernel
theorem dX6_use_65 : decode cX6_use 65 = .ok (.aload_n 0, 1) := by decide +kernel
theorem dX6_use_66 : decode cX6_use 66 = .ok (.iload_n 2, 1) := by decide +kernel
theorem dX6_use_67 : decode cX6_use 67 = .ok (.iconst 3, 1) := by decide +kernel
theorem dX6_use_68 : decode cX6_use 68 = .ok (.invokevirtual 34, 3) := by decide +kernel
theorem dX6_use_71 : decode cX6_use 71 = .ok (.if_icmp .ge 7, 3) := by decide +kernel
theorem dX6_use_74 : decode cX6_use 74 = .ok (.iconst 1, 1) := by decide +kernel
theorem dX6_use_75 : decode cX6_use 75 = .ok (.goto 13, 3) := by decide +kernel
theorem dX6_use_78 : decode cX6_use 78 = .ok (.iload 4, 2) := by decide +kernel
theorem dX6_use_80 : decode cX6_use 80 = .ok (.ifCond .eq 7, 3) := by decide +kernel
theorem dX6_use_83 : decode cX6_use 83 = .ok (.iconst 2, 1) := by decide +kernel
theorem dX6_use_84 : decode cX6_use 84 = .ok (.goto 4, 3) := by decide +kernel
theorem dX6_use_87 : decode cX6_use 87 = .ok (.iconst 3, 1) := by decide +kernel
theorem dX6_use_88 : decode cX6_use 88 = .ok (.ireturn, 1) := by decide +kernel
theorem dX6_setting_0 : decode cX6_setting 0 = .ok (.iload_n 1, 1) := by decide +kernel
theorem dX6_setting_1 : decode cX6_setting 1 = .ok (.iconst 0, 1) := by decide +kernel
theorem dX6_setting_2 : decode cX6_setting 2 = .ok (.iconst 1, 1) := by decide +kernel
theorem dX6_setting_3 : decode cX6_setting 3 = .ok (.invokestatic 30, 3) := by decide +kernel
theorem dX6_setting_6 : decode cX6_setting 6 = .ok (.ifCond .eq 14, 3) := by decide +kernel
theorem dX6_setting_9 : decode cX6_setting 9 = .ok (.aload_n 0, 1) := by decide +kernel
theorem dX6_setting_10 : decode cX6_setting 10 = .ok (.getfield 7, 3) := by decide +kernel
theorem dX6_setting_13 : decode cX6_setting 13 = .ok (.iconst 2, 1) := by decide +kernel
theorem dX6_setting_14 : decode cX6_setting 14 = .ok (.iload_n 1, 1) := by decide +kernel
theorem dX6_setting_15 : decode cX6_setting 15 = .ok (.iadd, 1) := by decide +kernel
theorem dX6_setting_16 : decode cX6_setting 16 = .ok (.iaload, 1) := by decide +kernel
theorem dX6_setting_17 : decode cX6_setting 17 = .ok (.goto 4, 3) := by decide +kernel
theorem dX6_setting_20 : decode cX6_setting 20 = .ok (.iconst (-1), 1) := by decide +kernel
theorem dX6_setting_21 : decode cX6_setting 21 = .ok (.ireturn, 1) := by decide +kernel
theorem dX6_found_0 : decode cX6_found 0 = .ok (.aload_n 0, 1) := by decide +kernel
theorem dX6_found_1 : decode cX6_found 1 = .ok (.invokevirtual 67, 3) := by decide +kernel
theorem dX6_found_4 : decode cX6_found 4 = .ok (.ifCond .ge 7, 3) := by decide +kernel
theorem dX6_found_7 : decode cX6_found 7 = .ok (.iconst 0, 1) := by decide +kernel
theorem dX6_found_8 : decode cX6_found 8 = .ok (.goto 12, 3) := by decide +kernel
theorem dX6_found_11 : decode cX6_found 11 = .ok (.aload_n 0, 1) := by decide +kernel
theorem dX6_found_12 : decode cX6_found 12 = .ok (.aload_n 0, 1) := by decide +kernel
theorem dX6_found_13 : decode cX6_found 13 = .ok (.invokevirtual 67, 3) := by decide +kernel
theorem dX6_found_16 : decode cX6_found 16 = .ok (.iload_n 1, 1) := by decide +kernel
theorem dX6_found_17 : decode cX6_found 17 = .ok (.invokevirtual 38, 3) := by decide +kernel
theorem dX6_found_20 : decode cX6_found 20 = .ok (.ireturn, 1) := by decide +kernel
theorem dX6_find_0 : decode cX6_find 0 = .ok (.iload_n 1, 1) := by decide +kernel
theorem dX6_find_1 : decode cX6_find 1 = .ok (.invokestatic 74, 3) := by decide +kernel
theorem dX6_find_4 : decode cX6_find 4 = .ok (.ifCond .ne 5, 3) := by decide +kernel
theorem dX6_find_7 : decode cX6_find 7 = .ok (.iconst (-1), 1) := by decide +kernel
theorem dX6_find_8 : decode cX6_find 8 = .ok (.ireturn, 1) := by decide +kernel
theorem dX6_find_9 : decode cX6_find 9 = .ok (.aload_n 0, 1) := by decide +kernel
theorem dX6_find_10 : decode cX6_find 10 = .ok (.iload_n 1, 1) := by decide +kernel
theorem dX6_find_11 : decode cX6_find 11 = .ok (.invokevirtual 167, 3) := by decide +kernel
theorem dX6_find_14 : decode cX6_find 14 = .ok (.ifCond .ne 8, 3) := by decide +kernel
theorem dX6_find_17 : decode cX6_find 17 = .ok (.bipush (-6), 2) := by decide +kernel
theorem dX6_find_19 : decode cX6_find 19 = .ok (.goto 11, 3) := by decide +kernel
theorem dX6_find_22 : decode cX6_find 22 = .ok (.aload_n 0, 1) := by decide +kernel
theorem dX6_find_23 : decode cX6_find 23 = .ok (.iload_n 1, 1) := by decide +kernel
theorem dX6_find_24 : decode cX6_find 24 = .ok (.invokevirtual 167, 3) := by decide +kernel
theorem dX6_find_27 : decode cX6_find 27 = .ok (.invokestatic 52, 3) := by decide +kernel
theorem dX6_find_30 : decode cX6_find 30 = .ok (.ireturn, 1) := by decide +kernel
theorem dX6_intact_0 : decode cX6_intact 0 = .ok (.iload_n 1, 1) := by decide +kernel
theorem dX6_intact_1 : decode cX6_intact 1 = .ok (.invokestatic 74, 3) := by decide +kernel
theorem dX6_intact_4 : decode cX6_intact 4 = .ok (.ifCond .ne 5, 3) := by decide +kernel
theorem dX6_intact_7 : decode cX6_intact 7 = .ok (.iconst (-1), 1) := by decide +kernel
theorem dX6_intact_8 : decode cX6_intact 8 = .ok (.ireturn, 1) := by decide +kernel
theorem dX6_intact_9 : decode cX6_intact 9 = .ok (.aload_n 0, 1) := by decide +kernel
theorem dX6_intact_10 : decode cX6_intact 10 = .ok (.iload_n 1, 1) := by decide +kernel
theorem dX6_intact_11 : decode cX6_intact 11 = .ok (.invokevirtual 167, 3) := by decide +kernel
theorem dX6_intact_14 : decode cX6_intact 14 = .ok (.ifCond .ne 8, 3) := by decide +kernel
theorem dX6_intact_17 : decode cX6_intact 17 = .ok (.bipush (-6), 2) := by decide +kernel
theorem dX6_intact_19 : decode cX6_intact 19 = .ok (.goto 20, 3) := by decide +kernel
theorem dX6_intact_22 : decode cX6_intact 22 = .ok (.aload_n 0, 1) := by decide +kernel
theorem dX6_intact_23 : decode cX6_intact 23 = .ok (.aload_n 0, 1) := by decide +kernel
theorem dX6_intact_24 : decode cX6_intact 24 = .ok (.iload_n 1, 1) := by decide +kernel
theorem dX6_intact_25 : decode cX6_intact 25 = .ok (.invokevirtual 167, 3) := by decide +kernel
theorem dX6_intact_28 : decode cX6_intact 28 = .ok (.invokevirtual 170, 3) := by decide +kernel
theorem dX6_intact_31 : decode cX6_intact 31 = .ok (.ifCond .eq 7, 3) := by decide +kernel
theorem dX6_intact_34 : decode cX6_intact 34 = .ok (.iconst 1, 1) := by decide +kernel
theorem dX6_intact_35 : decode cX6_intact 35 = .ok (.goto 4, 3) := by decide +kernel
theorem dX6_intact_38 : decode cX6_intact 38 = .ok (.iconst 0, 1) := by decide +kernel
theorem dX6_intact_39 : decode cX6_intact 39 = .ok (.ireturn, 1) := by decide +kernel
theorem dX6_wholeFiles_0 : decode cX6_wholeFiles 0 = .ok (.iconst 0, 1) := by decide +kernel
theorem dX6_wholeFiles_1 : decode cX6_wholeFiles 1 = .ok (.istore_n 1, 1) := by decide +kernel
theorem dX6_wholeFiles_2 : decode cX6_wholeFiles 2 = .ok (.aload_n 0, 1) := by decide +kernel
theorem dX6_wholeFiles_3 : decode cX6_wholeFiles 3 = .ok (.invokevirtual 67, 3) := by decide +kernel
theorem dX6_wholeFiles_6 : decode cX6_wholeFiles 6 = .ok (.istore_n 2, 1) := by decide +kernel
theorem dX6_wholeFiles_7 : decode cX6_wholeFiles 7 = .ok (.iconst 0, 1) := by decide +kernel
theorem dX6_wholeFiles_8 : decode cX6_wholeFiles 8 = .ok (.istore_n 3, 1) := by decide +kernel
theorem dX6_wholeFiles_9 : decode cX6_wholeFiles 9 = .ok (.iload_n 3, 1) := by decide +kernel
theorem dX6_wholeFiles_10 : decode cX6_wholeFiles 10 = .ok (.bipush 20, 2) := by decide +kernel
theorem dX6_wholeFiles_12 : decode cX6_wholeFiles 12 = .ok (.if_icmp .ge 43, 3) := by decide +kernel
theorem dX6_wholeFiles_15 : decode cX6_wholeFiles 15 = .ok (.iload_n 2, 1) := by decide +kernel
theorem dX6_wholeFiles_16 : decode cX6_wholeFiles 16 = .ok (.ifCond .lt 39, 3) := by decide +kernel
theorem dX6_wholeFiles_19 : decode cX6_wholeFiles 19 = .ok (.aload_n 0, 1) := by decide +kernel
theorem dX6_wholeFiles_20 : decode cX6_wholeFiles 20 = .ok (.iload_n 2, 1) := by decide +kernel
theorem dX6_wholeFiles_21 : decode cX6_wholeFiles 21 = .ok (.iload_n 3, 1) := by decide +kernel
theorem dX6_wholeFiles_22 : decode cX6_wholeFiles 22 = .ok (.invokevirtual 38, 3) := by decide +kernel
theorem dX6_wholeFiles_25 : decode cX6_wholeFiles 25 = .ok (.istore 4, 2) := by decide +kernel
theorem dX6_wholeFiles_27 : decode cX6_wholeFiles 27 = .ok (.iload_n 1, 1) := by decide +kernel
theorem dX6_wholeFiles_28 : decode cX6_wholeFiles 28 = .ok (.iload 4, 2) := by decide +kernel
theorem dX6_wholeFiles_30 : decode cX6_wholeFiles 30 = .ok (.ifCond .le 16, 3) := by decide +kernel
theorem dX6_wholeFiles_33 : decode cX6_wholeFiles 33 = .ok (.aload_n 0, 1) := by decide +kernel
theorem dX6_wholeFiles_34 : decode cX6_wholeFiles 34 = .ok (.iload 4, 2) := by decide +kernel
theorem dX6_wholeFiles_36 : decode cX6_wholeFiles 36 = .ok (.invokevirtual 170, 3) := by decide +kernel
theorem dX6_wholeFiles_39 : decode cX6_wholeFiles 39 = .ok (.ifCond .eq 7, 3) := by decide +kernel
theorem dX6_wholeFiles_42 : decode cX6_wholeFiles 42 = .ok (.iconst 1, 1) := by decide +kernel
theorem dX6_wholeFiles_43 : decode cX6_wholeFiles 43 = .ok (.goto 4, 3) := by decide +kernel
theorem dX6_wholeFiles_46 : decode cX6_wholeFiles 46 = .ok (.iconst 0, 1) := by decide +kernel
theorem dX6_wholeFiles_47 : decode cX6_wholeFiles 47 = .ok (.iadd, 1) := by decide +kernel
theorem dX6_wholeFiles_48 : decode cX6_wholeFiles 48 = .ok (.istore_n 1, 1) := by decide +kernel
theorem dX6_wholeFiles_49 : decode cX6_wholeFiles 49 = .ok (.iinc 3 1, 3) := by decide +kernel
theorem dX6_wholeFiles_52 : decode cX6_wholeFiles 52 = .ok (.goto (-43), 3) := by decide +kernel
theorem dX6_wholeFiles_55 : decode cX6_wholeFiles 55 = .ok (.iload_n 1, 1) := by decide +kernel
theorem dX6_wholeFiles_56 : decode cX6_wholeFiles 56 = .ok (.ireturn, 1) := by decide +kernel
theorem dX6_intactFiles_0 : decode cX6_intactFiles 0 = .ok (.aload_n 0, 1) := by decide +kernel
theorem dX6_intactFiles_1 : decode cX6_intactFiles 1 = .ok (.invokevirtual 173, 3) := by decide +kernel
theorem dX6_intactFiles_4 : decode cX6_intactFiles 4 = .ok (.ireturn, 1) := by decide +kernel
theorem dX6_versions_0 : decode cX6_versions 0 = .ok (.iload_n 1, 1) := by decide +kernel
theorem dX6_versions_1 : decode cX6_versions 1 = .ok (.invokestatic 74, 3) := by decide +kernel
theorem dX6_versions_4 : decode cX6_versions 4 = .ok (.ifCond .eq 15, 3) := by decide +kernel
theorem dX6_versions_7 : decode cX6_versions 7 = .ok (.aload_n 0, 1) := by decide +kernel
theorem dX6_versions_8 : decode cX6_versions 8 = .ok (.getfield 7, 3) := by decide +kernel
theorem dX6_versions_11 : decode cX6_versions 11 = .ok (.bipush 12, 2) := by decide +kernel
theorem dX6_versions_13 : decode cX6_versions 13 = .ok (.iload_n 1, 1) := by decide +kernel
theorem dX6_versions_14 : decode cX6_versions 14 = .ok (.iadd, 1) := by decide +kernel
theorem dX6_versions_15 : decode cX6_versions 15 = .ok (.iaload, 1) := by decide +kernel
theorem dX6_versions_16 : decode cX6_versions 16 = .ok (.goto 4, 3) := by decide +kernel
theorem dX6_versions_19 : decode cX6_versions 19 = .ok (.iconst (-1), 1) := by decide +kernel
theorem dX6_versions_20 : decode cX6_versions 20 = .ok (.ireturn, 1) := by decide +kernel
theorem dX6_latestIntact_0 : decode cX6_latestIntact 0 = .ok (.iload_n 1, 1) := by decide +kernel
theorem dX6_latestIntact_1 : decode cX6_latestIntact 1 = .ok (.invokestatic 74, 3) := by decide +kernel
theorem dX6_latestIntact_4 : decode cX6_latestIntact 4 = .ok (.ifCond .ne 5, 3) := by decide +kernel
theorem dX6_latestIntact_7 : decode cX6_latestIntact 7 = .ok (.iconst (-1), 1) := by decide +kernel
theorem dX6_latestIntact_8 : decode cX6_latestIntact 8 = .ok (.ireturn, 1) := by decide +kernel
theorem dX6_latestIntact_9 : decode cX6_latestIntact 9 = .ok (.bipush (-6), 2) := by decide +kernel
theorem dX6_latestIntact_11 : decode cX6_latestIntact 11 = .ok (.istore_n 2, 1) := by decide +kernel
theorem dX6_latestIntact_12 : decode cX6_latestIntact 12 = .ok (.iconst 0, 1) := by decide +kernel
theorem dX6_latestIntact_13 : decode cX6_latestIntact 13 = .ok (.istore_n 3, 1) := by decide +kernel
theorem dX6_latestIntact_14 : decode cX6_latestIntact 14 = .ok (.iload_n 3, 1) := by decide +kernel
theorem dX6_latestIntact_15 : decode cX6_latestIntact 15 = .ok (.aload_n 0, 1) := by decide +kernel
theorem dX6_latestIntact_16 : decode cX6_latestIntact 16 = .ok (.getfield 7, 3) := by decide +kernel
theorem dX6_latestIntact_19 : decode cX6_latestIntact 19 = .ok (.iconst 1, 1) := by decide +kernel
theorem dX6_latestIntact_20 : decode cX6_latestIntact 20 = .ok (.iaload, 1) := by decide +kernel
theorem dX6_latestIntact_21 : decode cX6_latestIntact 21 = .ok (.if_icmp .ge 45, 3) := by decide +kernel
theorem dX6_latestIntact_24 : decode cX6_latestIntact 24 = .ok (.aload_n 0, 1) := by decide +kernel
theorem dX6_latestIntact_25 : decode cX6_latestIntact 25 = .ok (.iload_n 3, 1) := by decide +kernel
theorem dX6_latestIntact_26 : decode cX6_latestIntact 26 = .ok (.iload_n 1, 1) := by decide +kernel
theorem dX6_latestIntact_27 : decode cX6_latestIntact 27 = .ok (.invokevirtual 38, 3) := by decide +kernel
theorem dX6_latestIntact_30 : decode cX6_latestIntact 30 = .ok (.istore 4, 2) := by decide +kernel
theorem dX6_latestIntact_32 : decode cX6_latestIntact 32 = .ok (.aload_n 0, 1) := by decide +kernel
theorem dX6_latestIntact_33 : decode cX6_latestIntact 33 = .ok (.iload_n 3, 1) := by decide +kernel
theorem dX6_latestIntact_34 : decode cX6_latestIntact 34 = .ok (.invokevirtual 49, 3) := by decide +kernel
theorem dX6_latestIntact_37 : decode cX6_latestIntact 37 = .ok (.ifCond .eq 21, 3) := by decide +kernel
theorem dX6_latestIntact_40 : decode cX6_latestIntact 40 = .ok (.iload 4, 2) := by decide +kernel
theorem dX6_latestIntact_42 : decode cX6_latestIntact 42 = .ok (.ifCond .le 16, 3) := by decide +kernel
theorem dX6_latestIntact_45 : decode cX6_latestIntact 45 = .ok (.aload_n 0, 1) := by decide +kernel
theorem dX6_latestIntact_46 : decode cX6_latestIntact 46 = .ok (.iload 4, 2) := by decide +kernel
theorem dX6_latestIntact_48 : decode cX6_latestIntact 48 = .ok (.invokevirtual 170, 3) := by decide +kernel
theorem dX6_latestIntact_51 : decode cX6_latestIntact 51 = .ok (.ifCond .eq 7, 3) := by decide +kernel
theorem dX6_latestIntact_54 : decode cX6_latestIntact 54 = .ok (.iload_n 3, 1) := by decide +kernel
theorem dX6_latestIntact_55 : decode cX6_latestIntact 55 = .ok (.goto 4, 3) := by decide +kernel
theorem dX6_latestIntact_58 : decode cX6_latestIntact 58 = .ok (.iload_n 2, 1) := by decide +kernel
theorem dX6_latestIntact_59 : decode cX6_latestIntact 59 = .ok (.istore_n 2, 1) := by decide +kernel
theorem dX6_latestIntact_60 : decode cX6_latestIntact 60 = .ok (.iinc 3 1, 3) := by decide +kernel
theorem dX6_latestIntact_63 : decode cX6_latestIntact 63 = .ok (.goto (-49), 3) := by decide +kernel
theorem dX6_latestIntact_66 : decode cX6_latestIntact 66 = .ok (.iload_n 2, 1) := by decide +kernel
theorem dX6_latestIntact_67 : decode cX6_latestIntact 67 = .ok (.ireturn, 1) := by decide +kernel
theorem dX6_foundSectors_0 : decode cX6_foundSectors 0 = .ok (.iconst 0, 1) := by decide +kernel
theorem dX6_foundSectors_1 : decode cX6_foundSectors 1 = .ok (.istore_n 1, 1) := by decide +kernel
theorem dX6_foundSectors_2 : decode cX6_foundSectors 2 = .ok (.aload_n 0, 1) := by decide +kernel
theorem dX6_foundSectors_3 : decode cX6_foundSectors 3 = .ok (.invokevirtual 67, 3) := by decide +kernel
theorem dX6_foundSectors_6 : decode cX6_foundSectors 6 = .ok (.istore_n 2, 1) := by decide +kernel
theorem dX6_foundSectors_7 : decode cX6_foundSectors 7 = .ok (.iconst 0, 1) := by decide +kernel
theorem dX6_foundSectors_8 : decode cX6_foundSectors 8 = .ok (.istore_n 3, 1) := by decide +kernel
theorem dX6_foundSectors_9 : decode cX6_foundSectors 9 = .ok (.iload_n 3, 1) := by decide +kernel
theorem dX6_foundSectors_10 : decode cX6_foundSectors 10 = .ok (.bipush 20, 2) := by decide +kernel
theorem dX6_foundSectors_12 : decode cX6_foundSectors 12 = .ok (.if_icmp .ge 25, 3) := by decide +kernel
theorem dX6_foundSectors_15 : decode cX6_foundSectors 15 = .ok (.iload_n 2, 1) := by decide +kernel
theorem dX6_foundSectors_16 : decode cX6_foundSectors 16 = .ok (.ifCond .lt 21, 3) := by decide +kernel
theorem dX6_foundSectors_19 : decode cX6_foundSectors 19 = .ok (.iload_n 1, 1) := by decide +kernel
theorem dX6_foundSectors_20 : decode cX6_foundSectors 20 = .ok (.aload_n 0, 1) := by decide +kernel
theorem dX6_foundSectors_21 : decode cX6_foundSectors 21 = .ok (.iload_n 2, 1) := by decide +kernel
theorem dX6_foundSectors_22 : decode cX6_foundSectors 22 = .ok (.iload_n 3, 1) := by decide +kernel
theorem dX6_foundSectors_23 : decode cX6_foundSectors 23 = .ok (.invokevirtual 38, 3) := by decide +kernel
theorem dX6_foundSectors_26 : decode cX6_foundSectors 26 = .ok (.invokestatic 56, 3) := by decide +kernel
theorem dX6_foundSectors_29 : decode cX6_foundSectors 29 = .ok (.iadd, 1) := by decide +kernel
theorem dX6_foundSectors_30 : decode cX6_foundSectors 30 = .ok (.istore_n 1, 1) := by decide +kernel
theorem dX6_foundSectors_31 : decode cX6_foundSectors 31 = .ok (.iinc 3 1, 3) := by decide +kernel
theorem dX6_foundSectors_34 : decode cX6_foundSectors 34 = .ok (.goto (-25), 3) := by decide +kernel
theorem dX6_foundSectors_37 : decode cX6_foundSectors 37 = .ok (.iload_n 1, 1) := by decide +kernel
theorem dX6_foundSectors_38 : decode cX6_foundSectors 38 = .ok (.ireturn, 1) := by decide +kernel
theorem dX6_lost_0 : decode cX6_lost 0 = .ok (.aload_n 0, 1) := by decide +kernel
theorem dX6_lost_1 : decode cX6_lost 1 = .ok (.getfield 7, 3) := by decide +kernel
theorem dX6_lost_4 : decode cX6_lost 4 = .ok (.iconst 0, 1) := by decide +kernel
theorem dX6_lost_5 : decode cX6_lost 5 = .ok (.iaload, 1) := by decide +kernel
theorem dX6_lost_6 : decode cX6_lost 6 = .ok (.aload_n 0, 1) := by decide +kernel
theorem dX6_lost_7 : decode cX6_lost 7 = .ok (.invokevirtual 176, 3) := by decide +kernel
theorem dX6_lost_10 : decode cX6_lost 10 = .ok (.isub, 1) := by decide +kernel
theorem dX6_lost_11 : decode cX6_lost 11 = .ok (.ireturn, 1) := by decide +kernel
theorem dX6_usedWell_0 : decode cX6_usedWell 0 = .ok (.aload_n 0, 1) := by decide +kernel
theorem dX6_usedWell_1 : decode cX6_usedWell 1 = .ok (.getfield 7, 3) := by decide +kernel
theorem dX6_usedWell_4 : decode cX6_usedWell 4 = .ok (.iconst 0, 1) := by decide +kernel
theorem dX6_usedWell_5 : decode cX6_usedWell 5 = .ok (.iaload, 1) := by decide +kernel
theorem dX6_usedWell_6 : decode cX6_usedWell 6 = .ok (.ifCond .ne 7, 3) := by decide +kernel
theorem dX6_usedWell_9 : decode cX6_usedWell 9 = .ok (.fconst 1, 1) := by decide +kernel
theorem dX6_usedWell_10 : decode cX6_usedWell 10 = .ok (.goto 16, 3) := by decide +kernel
theorem dX6_usedWell_13 : decode cX6_usedWell 13 = .ok (.aload_n 0, 1) := by decide +kernel
theorem dX6_usedWell_14 : decode cX6_usedWell 14 = .ok (.invokevirtual 176, 3) := by decide +kernel
theorem dX6_usedWell_17 : decode cX6_usedWell 17 = .ok (.i2f, 1) := by decide +kernel
theorem dX6_usedWell_18 : decode cX6_usedWell 18 = .ok (.aload_n 0, 1) := by decide +kernel
theorem dX6_usedWell_19 : decode cX6_usedWell 19 = .ok (.getfield 7, 3) := by decide +kernel
theorem dX6_usedWell_22 : decode cX6_usedWell 22 = .ok (.iconst 0, 1) := by decide +kernel
theorem dX6_usedWell_23 : decode cX6_usedWell 23 = .ok (.iaload, 1) := by decide +kernel
theorem dX6_usedWell_24 : decode cX6_usedWell 24 = .ok (.i2f, 1) := by decide +kernel
theorem dX6_usedWell_25 : decode cX6_usedWell 25 = .ok (.fdiv, 1) := by decide +kernel
theorem dX6_usedWell_26 : decode cX6_usedWell 26 = .ok (.freturn, 1) := by decide +kernel
theorem dX6_room_0 : decode cX6_room 0 = .ok (.aload_n 0, 1) := by decide +kernel
theorem dX6_room_1 : decode cX6_room 1 = .ok (.invokevirtual 63, 3) := by decide +kernel
theorem dX6_room_4 : decode cX6_room 4 = .ok (.istore_n 1, 1) := by decide +kernel
theorem dX6_room_5 : decode cX6_room 5 = .ok (.sipush 240, 3) := by decide +kernel
theorem dX6_room_8 : decode cX6_room 8 = .ok (.aload_n 0, 1) := by decide +kernel
theorem dX6_room_9 : decode cX6_room 9 = .ok (.getfield 7, 3) := by decide +kernel
theorem dX6_room_12 : decode cX6_room 12 = .ok (.iconst 0, 1) := by decide +kernel
theorem dX6_room_13 : decode cX6_room 13 = .ok (.iaload, 1) := by decide +kernel
theorem dX6_room_14 : decode cX6_room 14 = .ok (.isub, 1) := by decide +kernel
theorem dX6_room_15 : decode cX6_room 15 = .ok (.istore_n 2, 1) := by decide +kernel
theorem dX6_room_16 : decode cX6_room 16 = .ok (.iload_n 1, 1) := by decide +kernel
theorem dX6_room_17 : decode cX6_room 17 = .ok (.ifCond .lt 14, 3) := by decide +kernel
theorem dX6_room_20 : decode cX6_room 20 = .ok (.iload_n 2, 1) := by decide +kernel
theorem dX6_room_21 : decode cX6_room 21 = .ok (.aload_n 0, 1) := by decide +kernel
theorem dX6_room_22 : decode cX6_room 22 = .ok (.iload_n 1, 1) := by decide +kernel
theorem dX6_room_23 : decode cX6_room 23 = .ok (.iconst 4, 1) := by decide +kernel
theorem dX6_room_24 : decode cX6_room 24 = .ok (.invokevirtual 34, 3) := by decide +kernel
theorem dX6_room_27 : decode cX6_room 27 = .ok (.isub, 1) := by decide +kernel
theorem dX6_room_28 : decode cX6_room 28 = .ok (.goto 33, 3) := by decide +kernel
theorem dX6_room_31 : decode cX6_room 31 = .ok (.aload_n 0, 1) := by decide +kernel
theorem dX6_room_32 : decode cX6_room 32 = .ok (.getfield 7, 3) := by decide +kernel
theorem dX6_room_35 : decode cX6_room 35 = .ok (.iconst 1, 1) := by decide +kernel
theorem dX6_room_36 : decode cX6_room 36 = .ok (.iaload, 1) := by decide +kernel
theorem dX6_room_37 : decode cX6_room 37 = .ok (.bipush 12, 2) := by decide +kernel
theorem dX6_room_39 : decode cX6_room 39 = .ok (.if_icmp .ne 7, 3) := by decide +kernel
theorem dX6_room_42 : decode cX6_room 42 = .ok (.iconst 0, 1) := by decide +kernel
theorem dX6_room_43 : decode cX6_room 43 = .ok (.goto 18, 3) := by decide +kernel
theorem dX6_room_46 : decode cX6_room 46 = .ok (.iload_n 2, 1) := by decide +kernel
theorem dX6_room_47 : decode cX6_room 47 = .ok (.aload_n 0, 1) := by decide +kernel
theorem dX6_room_48 : decode cX6_room 48 = .ok (.getfield 7, 3) := by decide +kernel
theorem dX6_room_51 : decode cX6_room 51 = .ok (.iconst 2, 1) := by decide +kernel
theorem dX6_room_52 : decode cX6_room 52 = .ok (.iaload, 1) := by decide +kernel
theorem dX6_room_53 : decode cX6_room 53 = .ok (.isub, 1) := by decide +kernel
theorem dX6_room_54 : decode cX6_room 54 = .ok (.aload_n 0, 1) := by decide +kernel
theorem dX6_room_55 : decode cX6_room 55 = .ok (.getfield 7, 3) := by decide +kernel
theorem dX6_room_58 : decode cX6_room 58 = .ok (.iconst 3, 1) := by decide +kernel
theorem dX6_room_59 : decode cX6_room 59 = .ok (.iaload, 1) := by decide +kernel
theorem dX6_room_60 : decode cX6_room 60 = .ok (.isub, 1) := by decide +kernel
theorem dX6_room_61 : decode cX6_room 61 = .ok (.istore_n 3, 1) := by decide +kernel
theorem dX6_room_62 : decode cX6_room 62 = .ok (.iload_n 3, 1) := by decide +kernel
theorem dX6_room_63 : decode cX6_room 63 = .ok (.ifCond .ge 7, 3) := by decide +kernel
theorem dX6_room_66 : decode cX6_room 66 = .ok (.iconst 0, 1) := by decide +kernel
theorem dX6_room_67 : decode cX6_room 67 = .ok (.goto 4, 3) := by decide +kernel
theorem dX6_room_70 : decode cX6_room 70 = .ok (.iload_n 3, 1) := by decide +kernel
theorem dX6_room_71 : decode cX6_room 71 = .ok (.ireturn, 1) := by decide +kernel
theorem dX6_largest_0 : decode cX6_largest 0 = .ok (.aload_n 0, 1) := by decide +kernel
theorem dX6_largest_1 : decode cX6_largest 1 = .ok (.invokevirtual 179, 3) := by decide +kernel
theorem dX6_largest_4 : decode cX6_largest 4 = .ok (.bipush 40, 2) := by decide +kernel
theorem dX6_largest_6 : decode cX6_largest 6 = .ok (.if_icmp .ge 10, 3) := by decide +kernel
theorem dX6_largest_9 : decode cX6_largest 9 = .ok (.aload_n 0, 1) := by decide +kernel
theorem dX6_largest_10 : decode cX6_largest 10 = .ok (.invokevirtual 179, 3) := by decide +kernel
theorem dX6_largest_13 : decode cX6_largest 13 = .ok (.goto 5, 3) := by decide +kernel
theorem dX6_largest_16 : decode cX6_largest 16 = .ok (.bipush 40, 2) := by decide +kernel
theorem dX6_largest_18 : decode cX6_largest 18 = .ok (.ireturn, 1) := by decide +kernel
theorem dX6_filesLeft_0 : decode cX6_filesLeft 0 = .ok (.iload_n 1, 1) := by decide +kernel
theorem dX6_filesLeft_1 : decode cX6_filesLeft 1 = .ok (.iconst 1, 1) := by decide +kernel
theorem dX6_filesLeft_2 : decode cX6_filesLeft 2 = .ok (.bipush 40, 2) := by decide +kernel
theorem dX6_filesLeft_4 : decode cX6_filesLeft 4 = .ok (.invokestatic 30, 3) := by decide +kernel
theorem dX6_filesLeft_7 : decode cX6_filesLeft 7 = .ok (.ifCond .eq 12, 3) := by decide +kernel
theorem dX6_filesLeft_10 : decode cX6_filesLeft 10 = .ok (.aload_n 0, 1) := by decide +kernel
theorem dX6_filesLeft_11 : decode cX6_filesLeft 11 = .ok (.invokevirtual 179, 3) := by decide +kernel
theorem dX6_filesLeft_14 : decode cX6_filesLeft 14 = .ok (.iload_n 1, 1) := by decide +kernel
theorem dX6_filesLeft_15 : decode cX6_filesLeft 15 = .ok (.idiv, 1) := by decide +kernel
theorem dX6_filesLeft_16 : decode cX6_filesLeft 16 = .ok (.goto 5, 3) := by decide +kernel
theorem dX6_filesLeft_19 : decode cX6_filesLeft 19 = .ok (.bipush (-2), 2) := by decide +kernel
theorem dX6_filesLeft_21 : decode cX6_filesLeft 21 = .ok (.ireturn, 1) := by decide +kernel
theorem dX6_filesEach_0 : decode cX6_filesEach 0 = .ok (.iload_n 1, 1) := by decide +kernel
theorem dX6_filesEach_1 : decode cX6_filesEach 1 = .ok (.iconst 1, 1) := by decide +kernel
theorem dX6_filesEach_2 : decode cX6_filesEach 2 = .ok (.bipush 40, 2) := by decide +kernel
theorem dX6_filesEach_4 : decode cX6_filesEach 4 = .ok (.invokestatic 30, 3) := by decide +kernel
theorem dX6_filesEach_7 : decode cX6_filesEach 7 = .ok (.ifCond .ne 6, 3) := by decide +kernel
theorem dX6_filesEach_10 : decode cX6_filesEach 10 = .ok (.bipush (-2), 2) := by decide +kernel
theorem dX6_filesEach_12 : decode cX6_filesEach 12 = .ok (.ireturn, 1) := by decide +kernel
theorem dX6_filesEach_13 : decode cX6_filesEach 13 = .ok (.aload_n 0, 1) := by decide +kernel
theorem dX6_filesEach_14 : decode cX6_filesEach 14 = .ok (.invokevirtual 63, 3) := by decide +kernel
theorem dX6_filesEach_17 : decode cX6_filesEach 17 = .ok (.istore_n 2, 1) := by decide +kernel
theorem dX6_filesEach_18 : decode cX6_filesEach 18 = .ok (.sipush 240, 3) := by decide +kernel
theorem dX6_filesEach_21 : decode cX6_filesEach 21 = .ok (.aload_n 0, 1) := by decide +kernel
theorem dX6_filesEach_22 : decode cX6_filesEach 22 = .ok (.getfield 7, 3) := by decide +kernel
theorem dX6_filesEach_25 : decode cX6_filesEach 25 = .ok (.iconst 0, 1) := by decide +kernel
theorem dX6_filesEach_26 : decode cX6_filesEach 26 = .ok (.iaload, 1) := by decide +kernel
theorem dX6_filesEach_27 : decode cX6_filesEach 27 = .ok (.isub, 1) := by decide +kernel
theorem dX6_filesEach_28 : decode cX6_filesEach 28 = .ok (.istore_n 3, 1) := by decide +kernel
theorem dX6_filesEach_29 : decode cX6_filesEach 29 = .ok (.aload_n 0, 1) := by decide +kernel
theorem dX6_filesEach_30 : decode cX6_filesEach 30 = .ok (.getfield 7, 3) := by decide +kernel
theorem dX6_filesEach_33 : decode cX6_filesEach 33 = .ok (.iconst 1, 1) := by decide +kernel
theorem dX6_filesEach_34 : decode cX6_filesEach 34 = .ok (.iaload, 1) := by decide +kernel
theorem dX6_filesEach_35 : decode cX6_filesEach 35 = .ok (.istore 4, 2) := by decide +kernel
theorem dX6_filesEach_37 : decode cX6_filesEach 37 = .ok (.iconst 0, 1) := by decide +kernel
theorem dX6_filesEach_38 : decode cX6_filesEach 38 = .ok (.istore 5, 2) := by decide +kernel
theorem dX6_filesEach_40 : decode cX6_filesEach 40 = .ok (.iload_n 2, 1) := by decide +kernel
theorem dX6_filesEach_41 : decode cX6_filesEach 41 = .ok (.ifCond .lt 25, 3) := by decide +kernel
theorem dX6_filesEach_44 : decode cX6_filesEach 44 = .ok (.iload_n 3, 1) := by decide +kernel
theorem dX6_filesEach_45 : decode cX6_filesEach 45 = .ok (.iload_n 1, 1) := by decide +kernel
theorem dX6_filesEach_46 : decode cX6_filesEach 46 = .ok (.aload_n 0, 1) := by decide +kernel
theorem dX6_filesEach_47 : decode cX6_filesEach 47 = .ok (.iload_n 2, 1) := by decide +kernel
theorem dX6_filesEach_48 : decode cX6_filesEach 48 = .ok (.iconst 4, 1) := by decide +kernel
theorem dX6_filesEach_49 : decode cX6_filesEach 49 = .ok (.invokevirtual 34, 3) := by decide +kernel
theorem dX6_filesEach_52 : decode cX6_filesEach 52 = .ok (.iadd, 1) := by decide +kernel
theorem dX6_filesEach_53 : decode cX6_filesEach 53 = .ok (.isub, 1) := by decide +kernel
theorem dX6_filesEach_54 : decode cX6_filesEach 54 = .ok (.istore_n 3, 1) := by decide +kernel
theorem dX6_filesEach_55 : decode cX6_filesEach 55 = .ok (.iload_n 3, 1) := by decide +kernel
theorem dX6_filesEach_56 : decode cX6_filesEach 56 = .ok (.ifCond .ge 7, 3) := by decide +kernel
theorem dX6_filesEach_59 : decode cX6_filesEach 59 = .ok (.iconst 0, 1) := by decide +kernel
theorem dX6_filesEach_60 : decode cX6_filesEach 60 = .ok (.goto 4, 3) := by decide +kernel
theorem dX6_filesEach_63 : decode cX6_filesEach 63 = .ok (.iconst 1, 1) := by decide +kernel
theorem dX6_filesEach_64 : decode cX6_filesEach 64 = .ok (.istore 5, 2) := by decide +kernel
theorem dX6_filesEach_66 : decode cX6_filesEach 66 = .ok (.iload_n 1, 1) := by decide +kernel
theorem dX6_filesEach_67 : decode cX6_filesEach 67 = .ok (.aload_n 0, 1) := by decide +kernel
theorem dX6_filesEach_68 : decode cX6_filesEach 68 = .ok (.getfield 7, 3) := by decide +kernel
theorem dX6_filesEach_71 : decode cX6_filesEach 71 = .ok (.iconst 2, 1) := by decide +kernel
theorem dX6_filesEach_72 : decode cX6_filesEach 72 = .ok (.iaload, 1) := by decide +kernel
theorem dX6_filesEach_73 : decode cX6_filesEach 73 = .ok (.iadd, 1) := by decide +kernel
theorem dX6_filesEach_74 : decode cX6_filesEach 74 = .ok (.aload_n 0, 1) := by decide +kernel
theorem dX6_filesEach_75 : decode cX6_filesEach 75 = .ok (.getfield 7, 3) := by decide +kernel
theorem dX6_filesEach_78 : decode cX6_filesEach 78 = .ok (.iconst 3, 1) := by decide +kernel
theorem dX6_filesEach_79 : decode cX6_filesEach 79 = .ok (.iaload, 1) := by decide +kernel
theorem dX6_filesEach_80 : decode cX6_filesEach 80 = .ok (.iadd, 1) := by decide +kernel
theorem dX6_filesEach_81 : decode cX6_filesEach 81 = .ok (.istore 6, 2) := by decide +kernel
theorem dX6_filesEach_83 : decode cX6_filesEach 83 = .ok (.iload_n 3, 1) := by decide +kernel
theorem dX6_filesEach_84 : decode cX6_filesEach 84 = .ok (.iload 6, 2) := by decide +kernel
theorem dX6_filesEach_86 : decode cX6_filesEach 86 = .ok (.if_icmp .lt 24, 3) := by decide +kernel
theorem dX6_filesEach_89 : decode cX6_filesEach 89 = .ok (.iload 4, 2) := by decide +kernel
theorem dX6_filesEach_91 : decode cX6_filesEach 91 = .ok (.bipush 12, 2) := by decide +kernel
theorem dX6_filesEach_93 : decode cX6_filesEach 93 = .ok (.if_icmp .ge 17, 3) := by decide +kernel
theorem dX6_filesEach_96 : decode cX6_filesEach 96 = .ok (.iload_n 3, 1) := by decide +kernel
theorem dX6_filesEach_97 : decode cX6_filesEach 97 = .ok (.iload 6, 2) := by decide +kernel
theorem dX6_filesEach_99 : decode cX6_filesEach 99 = .ok (.isub, 1) := by decide +kernel
theorem dX6_filesEach_100 : decode cX6_filesEach 100 = .ok (.istore_n 3, 1) := by decide +kernel
theorem dX6_filesEach_101 : decode cX6_filesEach 101 = .ok (.iinc 4 1, 3) := by decide +kernel
theorem dX6_filesEach_104 : decode cX6_filesEach 104 = .ok (.iinc 5 1, 3) := by decide +kernel
theorem dX6_filesEach_107 : decode cX6_filesEach 107 = .ok (.goto (-24), 3) := by decide +kernel
theorem dX6_filesEach_110 : decode cX6_filesEach 110 = .ok (.iload 5, 2) := by decide +kernel
theorem dX6_filesEach_112 : decode cX6_filesEach 112 = .ok (.ireturn, 1) := by decide +kernel
theorem dX6_hurtOf_0 : decode cX6_hurtOf 0 = .ok (.aload_n 0, 1) := by decide +kernel
theorem dX6_hurtOf_1 : decode cX6_hurtOf 1 = .ok (.getfield 7, 3) := by decide +kernel
theorem dX6_hurtOf_4 : decode cX6_hurtOf 4 = .ok (.iconst 4, 1) := by decide +kernel
theorem dX6_hurtOf_5 : decode cX6_hurtOf 5 = .ok (.iload_n 1, 1) := by decide +kernel
theorem dX6_hurtOf_6 : decode cX6_hurtOf 6 = .ok (.bipush 30, 2) := by decide +kernel
theorem dX6_hurtOf_8 : decode cX6_hurtOf 8 = .ok (.idiv, 1) := by decide +kernel
theorem dX6_hurtOf_9 : decode cX6_hurtOf 9 = .ok (.iadd, 1) := by decide +kernel
theorem dX6_hurtOf_10 : decode cX6_hurtOf 10 = .ok (.iaload, 1) := by decide +kernel
theorem dX6_hurtOf_11 : decode cX6_hurtOf 11 = .ok (.istore_n 2, 1) := by decide +kernel
theorem dX6_hurtOf_12 : decode cX6_hurtOf 12 = .ok (.aload_n 0, 1) := by decide +kernel
theorem dX6_hurtOf_13 : decode cX6_hurtOf 13 = .ok (.getfield 7, 3) := by decide +kernel
theorem dX6_hurtOf_16 : decode cX6_hurtOf 16 = .ok (.iconst 4, 1) := by decide +kernel
theorem dX6_hurtOf_17 : decode cX6_hurtOf 17 = .ok (.iload_n 1, 1) := by decide +kernel
theorem dX6_hurtOf_18 : decode cX6_hurtOf 18 = .ok (.bipush 30, 2) := by decide +kernel
theorem dX6_hurtOf_20 : decode cX6_hurtOf 20 = .ok (.idiv, 1) := by decide +kernel
theorem dX6_hurtOf_21 : decode cX6_hurtOf 21 = .ok (.iadd, 1) := by decide +kernel
theorem dX6_hurtOf_22 : decode cX6_hurtOf 22 = .ok (.dup2, 1) := by decide +kernel
theorem dX6_hurtOf_23 : decode cX6_hurtOf 23 = .ok (.iaload, 1) := by decide +kernel
theorem dX6_hurtOf_24 : decode cX6_hurtOf 24 = .ok (.iconst 1, 1) := by decide +kernel
theorem dX6_hurtOf_25 : decode cX6_hurtOf 25 = .ok (.iload_n 1, 1) := by decide +kernel
theorem dX6_hurtOf_26 : decode cX6_hurtOf 26 = .ok (.bipush 30, 2) := by decide +kernel
theorem dX6_hurtOf_28 : decode cX6_hurtOf 28 = .ok (.irem, 1) := by decide +kernel
theorem dX6_hurtOf_29 : decode cX6_hurtOf 29 = .ok (.ishl, 1) := by decide +kernel
theorem dX6_hurtOf_30 : decode cX6_hurtOf 30 = .ok (.ior, 1) := by decide +kernel
theorem dX6_hurtOf_31 : decode cX6_hurtOf 31 = .ok (.iastore, 1) := by decide +kernel
theorem dX6_hurtOf_32 : decode cX6_hurtOf 32 = .ok (.iload_n 2, 1) := by decide +kernel
theorem dX6_hurtOf_33 : decode cX6_hurtOf 33 = .ok (.ireturn, 1) := by decide +kernel
theorem dX6_validIf_0 : decode cX6_validIf 0 = .ok (.iload_n 1, 1) := by decide +kernel
theorem dX6_validIf_1 : decode cX6_validIf 1 = .ok (.invokestatic 86, 3) := by decide +kernel
theorem dX6_validIf_4 : decode cX6_validIf 4 = .ok (.ifCond .ne 5, 3) := by decide +kernel
theorem dX6_validIf_7 : decode cX6_validIf 7 = .ok (.iconst (-1), 1) := by decide +kernel
theorem dX6_validIf_8 : decode cX6_validIf 8 = .ok (.ireturn, 1) := by decide +kernel
theorem dX6_validIf_9 : decode cX6_validIf 9 = .ok (.aload_n 0, 1) := by decide +kernel
theorem dX6_validIf_10 : decode cX6_validIf 10 = .ok (.iload_n 1, 1) := by decide +kernel
theorem dX6_validIf_11 : decode cX6_validIf 11 = .ok (.invokevirtual 182, 3) := by decide +kernel
theorem dX6_validIf_14 : decode cX6_validIf 14 = .ok (.istore_n 2, 1) := by decide +kernel
theorem dX6_validIf_15 : decode cX6_validIf 15 = .ok (.aload_n 0, 1) := by decide +kernel
theorem dX6_validIf_16 : decode cX6_validIf 16 = .ok (.invokevirtual 67, 3) := by decide +kernel
theorem dX6_validIf_19 : decode cX6_validIf 19 = .ok (.istore_n 3, 1) := by decide +kernel
theorem dX6_validIf_20 : decode cX6_validIf 20 = .ok (.aload_n 0, 1) := by decide +kernel
theorem dX6_validIf_21 : decode cX6_validIf 21 = .ok (.getfield 7, 3) := by decide +kernel
theorem dX6_validIf_24 : decode cX6_validIf 24 = .ok (.iconst 4, 1) := by decide +kernel
theorem dX6_validIf_25 : decode cX6_validIf 25 = .ok (.iload_n 1, 1) := by decide +kernel
theorem dX6_validIf_26 : decode cX6_validIf 26 = .ok (.bipush 30, 2) := by decide +kernel
theorem dX6_validIf_28 : decode cX6_validIf 28 = .ok (.idiv, 1) := by decide +kernel
theorem dX6_validIf_29 : decode cX6_validIf 29 = .ok (.iadd, 1) := by decide +kernel
theorem dX6_validIf_30 : decode cX6_validIf 30 = .ok (.iload_n 2, 1) := by decide +kernel
theorem dX6_validIf_31 : decode cX6_validIf 31 = .ok (.iastore, 1) := by decide +kernel
theorem dX6_validIf_32 : decode cX6_validIf 32 = .ok (.iload_n 3, 1) := by decide +kernel
theorem dX6_validIf_33 : decode cX6_validIf 33 = .ok (.ireturn, 1) := by decide +kernel
theorem dX6_worstSector_0 : decode cX6_worstSector 0 = .ok (.iconst 0, 1) := by decide +kernel
theorem dX6_worstSector_1 : decode cX6_worstSector 1 = .ok (.istore_n 1, 1) := by decide +kernel
theorem dX6_worstSector_2 : decode cX6_worstSector 2 = .ok (.bipush 21, 2) := by decide +kernel
theorem dX6_worstSector_4 : decode cX6_worstSector 4 = .ok (.istore_n 2, 1) := by decide +kernel
theorem dX6_worstSector_5 : decode cX6_worstSector 5 = .ok (.iconst 0, 1) := by decide +kernel
theorem dX6_worstSector_6 : decode cX6_worstSector 6 = .ok (.istore_n 3, 1) := by decide +kernel
theorem dX6_worstSector_7 : decode cX6_worstSector 7 = .ok (.iload_n 3, 1) := by decide +kernel
theorem dX6_worstSector_8 : decode cX6_worstSector 8 = .ok (.sipush 240, 3) := by decide +kernel
theorem dX6_worstSector_11 : decode cX6_worstSector 11 = .ok (.if_icmp .ge 60, 3) := by decide +kernel
theorem dX6_worstSector_14 : decode cX6_worstSector 14 = .ok (.aload_n 0, 1) := by decide +kernel
theorem dX6_worstSector_15 : decode cX6_worstSector 15 = .ok (.iload_n 3, 1) := by decide +kernel
theorem dX6_worstSector_16 : decode cX6_worstSector 16 = .ok (.invokevirtual 182, 3) := by decide +kernel
theorem dX6_worstSector_19 : decode cX6_worstSector 19 = .ok (.istore 4, 2) := by decide +kernel
theorem dX6_worstSector_21 : decode cX6_worstSector 21 = .ok (.aload_n 0, 1) := by decide +kernel
theorem dX6_worstSector_22 : decode cX6_worstSector 22 = .ok (.invokevirtual 173, 3) := by decide +kernel
theorem dX6_worstSector_25 : decode cX6_worstSector 25 = .ok (.istore 5, 2) := by decide +kernel
theorem dX6_worstSector_27 : decode cX6_worstSector 27 = .ok (.aload_n 0, 1) := by decide +kernel
theorem dX6_worstSector_28 : decode cX6_worstSector 28 = .ok (.getfield 7, 3) := by decide +kernel
theorem dX6_worstSector_31 : decode cX6_worstSector 31 = .ok (.iconst 4, 1) := by decide +kernel
theorem dX6_worstSector_32 : decode cX6_worstSector 32 = .ok (.iload_n 3, 1) := by decide +kernel
theorem dX6_worstSector_33 : decode cX6_worstSector 33 = .ok (.bipush 30, 2) := by decide +kernel
theorem dX6_worstSector_35 : decode cX6_worstSector 35 = .ok (.idiv, 1) := by decide +kernel
theorem dX6_worstSector_36 : decode cX6_worstSector 36 = .ok (.iadd, 1) := by decide +kernel
theorem dX6_worstSector_37 : decode cX6_worstSector 37 = .ok (.iload 4, 2) := by decide +kernel
theorem dX6_worstSector_39 : decode cX6_worstSector 39 = .ok (.iastore, 1) := by decide +kernel
theorem dX6_worstSector_40 : decode cX6_worstSector 40 = .ok (.iload 5, 2) := by decide +kernel
theorem dX6_worstSector_42 : decode cX6_worstSector 42 = .ok (.iload_n 2, 1) := by decide +kernel
theorem dX6_worstSector_43 : decode cX6_worstSector 43 = .ok (.if_icmp .ge 7, 3) := by decide +kernel
theorem dX6_worstSector_46 : decode cX6_worstSector 46 = .ok (.iload_n 3, 1) := by decide +kernel
theorem dX6_worstSector_47 : decode cX6_worstSector 47 = .ok (.goto 4, 3) := by decide +kernel
theorem dX6_worstSector_50 : decode cX6_worstSector 50 = .ok (.iload_n 1, 1) := by decide +kernel
theorem dX6_worstSector_51 : decode cX6_worstSector 51 = .ok (.istore_n 1, 1) := by decide +kernel
theorem dX6_worstSector_52 : decode cX6_worstSector 52 = .ok (.iload 5, 2) := by decide +kernel
theorem dX6_worstSector_54 : decode cX6_worstSector 54 = .ok (.iload_n 2, 1) := by decide +kernel
theorem dX6_worstSector_55 : decode cX6_worstSector 55 = .ok (.if_icmp .ge 8, 3) := by decide +kernel
theorem dX6_worstSector_58 : decode cX6_worstSector 58 = .ok (.iload 5, 2) := by decide +kernel
theorem dX6_worstSector_60 : decode cX6_worstSector 60 = .ok (.goto 4, 3) := by decide +kernel
theorem dX6_worstSector_63 : decode cX6_worstSector 63 = .ok (.iload_n 2, 1) := by decide +kernel
theorem dX6_worstSector_64 : decode cX6_worstSector 64 = .ok (.istore_n 2, 1) := by decide +kernel
theorem dX6_worstSector_65 : decode cX6_worstSector 65 = .ok (.iinc 3 1, 3) := by decide +kernel
theorem dX6_worstSector_68 : decode cX6_worstSector 68 = .ok (.goto (-61), 3) := by decide +kernel
theorem dX6_worstSector_71 : decode cX6_worstSector 71 = .ok (.iload_n 1, 1) := by decide +kernel
theorem dX6_worstSector_72 : decode cX6_worstSector 72 = .ok (.ireturn, 1) := by decide +kernel
theorem dJ9_max_7cf53_0 : decode cJ9_max_7cf53 0 = .ok (.iload_n 0, 1) := by decide +kernel
theorem dJ9_max_7cf53_1 : decode cJ9_max_7cf53 1 = .ok (.iload_n 1, 1) := by decide +kernel
theorem dJ9_max_7cf53_2 : decode cJ9_max_7cf53 2 = .ok (.if_icmp .lt 7, 3) := by decide +kernel
theorem dJ9_max_7cf53_5 : decode cJ9_max_7cf53 5 = .ok (.iload_n 0, 1) := by decide +kernel
theorem dJ9_max_7cf53_6 : decode cJ9_max_7cf53 6 = .ok (.goto 4, 3) := by decide +kernel
theorem dJ9_max_7cf53_9 : decode cJ9_max_7cf53 9 = .ok (.iload_n 1, 1) := by decide +kernel
theorem dJ9_max_7cf53_10 : decode cJ9_max_7cf53 10 = .ok (.ireturn, 1) := by decide +kernel
theorem dJ9_min_7cf53_0 : decode cJ9_min_7cf53 0 = .ok (.iload_n 0, 1) := by decide +kernel
theorem dJ9_min_7cf53_1 : decode cJ9_min_7cf53 1 = .ok (.iload_n 1, 1) := by decide +kernel
theorem dJ9_min_7cf53_2 : decode cJ9_min_7cf53 2 = .ok (.if_icmp .gt 7, 3) := by decide +kernel
theorem dJ9_min_7cf53_5 : decode cJ9_min_7cf53 5 = .ok (.iload_n 0, 1) := by decide +kernel
theorem dJ9_min_7cf53_6 : decode cJ9_min_7cf53 6 = .ok (.goto 4, 3) := by decide +kernel
theorem dJ9_min_7cf53_9 : decode cJ9_min_7cf53 9 = .ok (.iload_n 1, 1) := by decide +kernel
theorem dJ9_min_7cf53_10 : decode cJ9_min_7cf53 10 = .ok (.ireturn, 1) := by decide +kernel
theorem dL_law_0 : decode cL_law 0 = .ok (.new 7, 3) := by decide +kernel
theorem dL_law_3 : decode cL_law 3 = .ok (.dup, 1) := by decide +kernel
theorem dL_law_4 : decode cL_law 4 = .ok (.invokespecial 9, 3) := by decide +kernel
theorem dL_law_7 : decode cL_law 7 = .ok (.astore_n 1, 1) := by decide +kernel
theorem dL_law_8 : decode cL_law 8 = .ok (.new 10, 3) := by decide +kernel
theorem dL_law_11 : decode cL_law 11 = .ok (.dup, 1) := by decide +kernel
theorem dL_law_12 : decode cL_law 12 = .ok (.invokespecial 12, 3) := by decide +kernel
theorem dL_law_15 : decode cL_law 15 = .ok (.astore_n 2, 1) := by decide +kernel
theorem dL_law_16 : decode cL_law 16 = .ok (.iconst 0, 1) := by decide +kernel
theorem dL_law_17 : decode cL_law 17 = .ok (.istore_n 3, 1) := by decide +kernel
theorem dL_law_18 : decode cL_law 18 = .ok (.iload_n 3, 1) := by decide +kernel
theorem dL_law_19 : decode cL_law 19 = .ok (.aload_n 0, 1) := by decide +kernel
theorem dL_law_20 : decode cL_law 20 = .ok (.arraylength, 1) := by decide +kernel
theorem dL_law_21 : decode cL_law 21 = .ok (.iconst 4, 1) := by decide +kernel
theorem dL_law_22 : decode cL_law 22 = .ok (.isub, 1) := by decide +kernel
theorem dL_law_23 : decode cL_law 23 = .ok (.if_icmp .gt 899, 3) := by decide +kernel
theorem dL_law_26 : decode cL_law 26 = .ok (.aload_n 0, 1) := by decide +kernel
theorem dL_law_27 : decode cL_law 27 = .ok (.iload_n 3, 1) := by decide +kernel
theorem dL_law_28 : decode cL_law 28 = .ok (.iaload, 1) := by decide +kernel
theorem dL_law_29 : decode cL_law 29 = .ok (.bipush 63, 2) := by decide +kernel
theorem dL_law_31 : decode cL_law 31 = .ok (.iand, 1) := by decide +kernel
theorem dL_law_32 : decode cL_law 32 = .ok (.tableswitch 884 0 33 #[152, 175, 208, 231, 264, 277, 290, 313, 336, 369, 392, 405, 418, 431, 444, 457, 490, 533, 546, 559, 582, 605, 628, 651, 674, 687, 710, 733, 746, 789, 802, 825, 848, 871], 152) := by decide +kernel
theorem dL_law_184 : decode cL_law 184 = .ok (.aload_n 1, 1) := by decide +kernel
theorem dL_law_185 : decode cL_law 185 = .ok (.aload_n 0, 1) := by decide +kernel
theorem dL_law_186 : decode cL_law 186 = .ok (.iload_n 3, 1) := by decide +kernel
theorem dL_law_187 : decode cL_law 187 = .ok (.iconst 1, 1) := by decide +kernel
theorem dL_law_188 : decode cL_law 188 = .ok (.iadd, 1) := by decide +kernel
theorem dL_law_189 : decode cL_law 189 = .ok (.iaload, 1) := by decide +kernel
theorem dL_law_190 : decode cL_law 190 = .ok (.invokevirtual 13, 3) := by decide +kernel
theorem dL_law_193 : decode cL_law 193 = .ok (.aload_n 2, 1) := by decide +kernel
theorem dL_law_194 : decode cL_law 194 = .ok (.aload_n 0, 1) := by decide +kernel
theorem dL_law_195 : decode cL_law 195 = .ok (.iload_n 3, 1) := by decide +kernel
theorem dL_law_196 : decode cL_law 196 = .ok (.iconst 1, 1) := by decide +kernel
theorem dL_law_197 : decode cL_law 197 = .ok (.iadd, 1) := by decide +kernel
theorem dL_law_198 : decode cL_law 198 = .ok (.iaload, 1) := by decide +kernel
theorem dL_law_199 : decode cL_law 199 = .ok (.invokevirtual 17, 3) := by decide +kernel
theorem dL_law_202 : decode cL_law 202 = .ok (.if_icmp .eq 714, 3) := by decide +kernel
theorem dL_law_205 : decode cL_law 205 = .ok (.iconst 0, 1) := by decide +kernel
theorem dL_law_206 : decode cL_law 206 = .ok (.ireturn, 1) := by decide +kernel
theorem dL_law_207 : decode cL_law 207 = .ok (.aload_n 1, 1) := by decide +kernel
theorem dL_law_208 : decode cL_law 208 = .ok (.aload_n 0, 1) := by decide +kernel
theorem dL_law_209 : decode cL_law 209 = .ok (.iload_n 3, 1) := by decide +kernel
theorem dL_law_210 : decode cL_law 210 = .ok (.iconst 1, 1) := by decide +kernel
theorem dL_law_211 : decode cL_law 211 = .ok (.iadd, 1) := by decide +kernel
theorem dL_law_212 : decode cL_law 212 = .ok (.iaload, 1) := by decide +kernel
theorem dL_law_213 : decode cL_law 213 = .ok (.aload_n 0, 1) := by decide +kernel
theorem dL_law_214 : decode cL_law 214 = .ok (.iload_n 3, 1) := by decide +kernel
theorem dL_law_215 : decode cL_law 215 = .ok (.iconst 2, 1) := by decide +kernel
theorem dL_law_216 : decode cL_law 216 = .ok (.iadd, 1) := by decide +kernel
theorem dL_law_217 : decode cL_law 217 = .ok (.iaload, 1) := by decide +kernel
theorem dL_law_218 : decode cL_law 218 = .ok (.invokevirtual 18, 3) := by decide +kernel
theorem dL_law_221 : decode cL_law 221 = .ok (.aload_n 2, 1) := by decide +kernel
theorem dL_law_222 : decode cL_law 222 = .ok (.aload_n 0, 1) := by decide +kernel
theorem dL_law_223 : decode cL_law 223 = .ok (.iload_n 3, 1) := by decide +kernel
theorem dL_law_224 : decode cL_law 224 = .ok (.iconst 1, 1) := by decide +kernel
theorem dL_law_225 : decode cL_law 225 = .ok (.iadd, 1) := by decide +kernel
theorem dL_law_226 : decode cL_law 226 = .ok (.iaload, 1) := by decide +kernel
theorem dL_law_227 : decode cL_law 227 = .ok (.aload_n 0, 1) := by decide +kernel
theorem dL_law_228 : decode cL_law 228 = .ok (.iload_n 3, 1) := by decide +kernel
theorem dL_law_229 : decode cL_law 229 = .ok (.iconst 2, 1) := by decide +kernel
theorem dL_law_230 : decode cL_law 230 = .ok (.iadd, 1) := by decide +kernel
theorem dL_law_231 : decode cL_law 231 = .ok (.iaload, 1) := by decide +kernel
theorem dL_law_232 : decode cL_law 232 = .ok (.invokevirtual 22, 3) := by decide +kernel
theorem dL_law_235 : decode cL_law 235 = .ok (.if_icmp .eq 681, 3) := by decide +kernel
theorem dL_law_238 : decode cL_law 238 = .ok (.iconst 0, 1) := by decide +kernel
theorem dL_law_239 : decode cL_law 239 = .ok (.ireturn, 1) := by decide +kernel
theorem dL_law_240 : decode cL_law 240 = .ok (.aload_n 1, 1) := by decide +kernel
theorem dL_law_241 : decode cL_law 241 = .ok (.aload_n 0, 1) := by decide +kernel
theorem dL_law_242 : decode cL_law 242 = .ok (.iload_n 3, 1) := by decide +kernel
theorem dL_law_243 : decode cL_law 243 = .ok (.iconst 1, 1) := by decide +kernel
theorem dL_law_244 : decode cL_law 244 = .ok (.iadd, 1) := by decide +kernel
theorem dL_law_245 : decode cL_law 245 = .ok (.iaload, 1) := by decide +kernel
theorem dL_law_246 : decode cL_law 246 = .ok (.invokevirtual 23, 3) := by decide +kernel
theorem dL_law_249 : decode cL_law 249 = .ok (.aload_n 2, 1) := by decide +kernel
theorem dL_law_250 : decode cL_law 250 = .ok (.aload_n 0, 1) := by decide +kernel
theorem dL_law_251 : decode cL_law 251 = .ok (.iload_n 3, 1) := by decide +kernel
theorem dL_law_252 : decode cL_law 252 = .ok (.iconst 1, 1) := by decide +kernel
theorem dL_law_253 : decode cL_law 253 = .ok (.iadd, 1) := by decide +kernel
theorem dL_law_254 : decode cL_law 254 = .ok (.iaload, 1) := by decide +kernel
theorem dL_law_255 : decode cL_law 255 = .ok (.invokevirtual 26, 3) := by decide +kernel
theorem dL_law_258 : decode cL_law 258 = .ok (.if_icmp .eq 658, 3) := by decide +kernel
theorem dL_law_261 : decode cL_law 261 = .ok (.iconst 0, 1) := by decide +kernel
theorem dL_law_262 : decode cL_law 262 = .ok (.ireturn, 1) := by decide +kernel
theorem dL_law_263 : decode cL_law 263 = .ok (.aload_n 1, 1) := by decide +kernel
theorem dL_law_264 : decode cL_law 264 = .ok (.aload_n 0, 1) := by decide +kernel
theorem dL_law_265 : decode cL_law 265 = .ok (.iload_n 3, 1) := by decide +kernel
theorem dL_law_266 : decode cL_law 266 = .ok (.iconst 1, 1) := by decide +kernel
theorem dL_law_267 : decode cL_law 267 = .ok (.iadd, 1) := by decide +kernel
theorem dL_law_268 : decode cL_law 268 = .ok (.iaload, 1) := by decide +kernel
theorem dL_law_269 : decode cL_law 269 = .ok (.aload_n 0, 1) := by decide +kernel
theorem dL_law_270 : decode cL_law 270 = .ok (.iload_n 3, 1) := by decide +kernel
theorem dL_law_271 : decode cL_law 271 = .ok (.iconst 2, 1) := by decide +kernel
theorem dL_law_272 : decode cL_law 272 = .ok (.iadd, 1) := by decide +kernel
theorem dL_law_273 : decode cL_law 273 = .ok (.iaload, 1) := by decide +kernel
theorem dL_law_274 : decode cL_law 274 = .ok (.invokevirtual 27, 3) := by decide +kernel
theorem dL_law_277 : decode cL_law 277 = .ok (.aload_n 2, 1) := by decide +kernel
theorem dL_law_278 : decode cL_law 278 = .ok (.aload_n 0, 1) := by decide +kernel
theorem dL_law_279 : decode cL_law 279 = .ok (.iload_n 3, 1) := by decide +kernel
theorem dL_law_280 : decode cL_law 280 = .ok (.iconst 1, 1) := by decide +kernel
theorem dL_law_281 : decode cL_law 281 = .ok (.iadd, 1) := by decide +kernel
theorem dL_law_282 : decode cL_law 282 = .ok (.iaload, 1) := by decide +kernel
theorem dL_law_283 : decode cL_law 283 = .ok (.aload_n 0, 1) := by decide +kernel
theorem dL_law_284 : decode cL_law 284 = .ok (.iload_n 3, 1) := by decide +kernel
theorem dL_law_285 : decode cL_law 285 = .ok (.iconst 2, 1) := by decide +kernel
theorem dL_law_286 : decode cL_law 286 = .ok (.iadd, 1) := by decide +kernel
theorem dL_law_287 : decode cL_law 287 = .ok (.iaload, 1) := by decide +kernel
theorem dL_law_288 : decode cL_law 288 = .ok (.invokevirtual 30, 3) := by decide +kernel
theorem dL_law_291 : decode cL_law 291 = .ok (.if_icmp .eq 625, 3) := by decide +kernel
theorem dL_law_294 : decode cL_law 294 = .ok (.iconst 0, 1) := by decide +kernel
theorem dL_law_295 : decode cL_law 295 = .ok (.ireturn, 1) := by decide +kernel
theorem dL_law_296 : decode cL_law 296 = .ok (.aload_n 1, 1) := by decide +kernel
theorem dL_law_297 : decode cL_law 297 = .ok (.invokevirtual 31, 3) := by decide +kernel
theorem dL_law_300 : decode cL_law 300 = .ok (.aload_n 2, 1) := by decide +kernel
theorem dL_law_301 : decode cL_law 301 = .ok (.invokevirtual 35, 3) := by decide +kernel
theorem dL_law_304 : decode cL_law 304 = .ok (.if_icmp .eq 612, 3) := by decide +kernel
theorem dL_law_307 : decode cL_law 307 = .ok (.iconst 0, 1) := by decide +kernel
theorem dL_law_308 : decode cL_law 308 = .ok (.ireturn, 1) := by decide +kernel
theorem dL_law_309 : decode cL_law 309 = .ok (.aload_n 1, 1) := by decide +kernel
theorem dL_law_310 : decode cL_law 310 = .ok (.invokevirtual 36, 3) := by decide +kernel
theorem dL_law_313 : decode cL_law 313 = .ok (.aload_n 2, 1) := by decide +kernel
theorem dL_law_314 : decode cL_law 314 = .ok (.invokevirtual 39, 3) := by decide +kernel
theorem dL_law_317 : decode cL_law 317 = .ok (.if_icmp .eq 599, 3) := by decide +kernel
theorem dL_law_320 : decode cL_law 320 = .ok (.iconst 0, 1) := by decide +kernel
theorem dL_law_321 : decode cL_law 321 = .ok (.ireturn, 1) := by decide +kernel
theorem dL_law_322 : decode cL_law 322 = .ok (.aload_n 1, 1) := by decide +kernel
theorem dL_law_323 : decode cL_law 323 = .ok (.aload_n 0, 1) := by decide +kernel
theorem dL_law_324 : decode cL_law 324 = .ok (.iload_n 3, 1) := by decide +kernel
theorem dL_law_325 : decode cL_law 325 = .ok (.iconst 1, 1) := by decide +kernel
theorem dL_law_326 : decode cL_law 326 = .ok (.iadd, 1) := by decide +kernel
theorem dL_law_327 : decode cL_law 327 = .ok (.iaload, 1) := by decide +kernel
theorem dL_law_328 : decode cL_law 328 = .ok (.invokevirtual 40, 3) := by decide +kernel
theorem dL_law_331 : decode cL_law 331 = .ok (.aload_n 2, 1) := by decide +kernel
theorem dL_law_332 : decode cL_law 332 = .ok (.aload_n 0, 1) := by decide +kernel
theorem dL_law_333 : decode cL_law 333 = .ok (.iload_n 3, 1) := by decide +kernel
theorem dL_law_334 : decode cL_law 334 = .ok (.iconst 1, 1) := by decide +kernel
theorem dL_law_335 : decode cL_law 335 = .ok (.iadd, 1) := by decide +kernel
theorem dL_law_336 : decode cL_law 336 = .ok (.iaload, 1) := by decide +kernel
theorem dL_law_337 : decode cL_law 337 = .ok (.invokevirtual 43, 3) := by decide +kernel
theorem dL_law_340 : decode cL_law 340 = .ok (.if_icmp .eq 576, 3) := by decide +kernel
theorem dL_law_343 : decode cL_law 343 = .ok (.iconst 0, 1) := by decide +kernel
theorem dL_law_344 : decode cL_law 344 = .ok (.ireturn, 1) := by decide +kernel
theorem dL_law_345 : decode cL_law 345 = .ok (.aload_n 1, 1) := by decide +kernel
theorem dL_law_346 : decode cL_law 346 = .ok (.aload_n 0, 1) := by decide +kernel
theorem dL_law_347 : decode cL_law 347 = .ok (.iload_n 3, 1) := by decide +kernel
theorem dL_law_348 : decode cL_law 348 = .ok (.iconst 1, 1) := by decide +kernel
theorem dL_law_349 : decode cL_law 349 = .ok (.iadd, 1) := by decide +kernel
theorem dL_law_350 : decode cL_law 350 = .ok (.iaload, 1) := by decide +kernel
theorem dL_law_351 : decode cL_law 351 = .ok (.invokevirtual 44, 3) := by decide +kernel
theorem dL_law_354 : decode cL_law 354 = .ok (.aload_n 2, 1) := by decide +kernel
theorem dL_law_355 : decode cL_law 355 = .ok (.aload_n 0, 1) := by decide +kernel
theorem dL_law_356 : decode cL_law 356 = .ok (.iload_n 3, 1) := by decide +kernel
theorem dL_law_357 : decode cL_law 357 = .ok (.iconst 1, 1) := by decide +kernel
theorem dL_law_358 : decode cL_law 358 = .ok (.iadd, 1) := by decide +kernel
theorem dL_law_359 : decode cL_law 359 = .ok (.iaload, 1) := by decide +kernel
theorem dL_law_360 : decode cL_law 360 = .ok (.invokevirtual 47, 3) := by decide +kernel
theorem dL_law_363 : decode cL_law 363 = .ok (.if_icmp .eq 553, 3) := by decide +kernel
theorem dL_law_366 : decode cL_law 366 = .ok (.iconst 0, 1) := by decide +kernel
theorem dL_law_367 : decode cL_law 367 = .ok (.ireturn, 1) := by decide +kernel
theorem dL_law_368 : decode cL_law 368 = .ok (.aload_n 1, 1) := by decide +kernel
theorem dL_law_369 : decode cL_law 369 = .ok (.aload_n 0, 1) := by decide +kernel
theorem dL_law_370 : decode cL_law 370 = .ok (.iload_n 3, 1) := by decide +kernel
theorem dL_law_371 : decode cL_law 371 = .ok (.iconst 1, 1) := by decide +kernel
theorem dL_law_372 : decode cL_law 372 = .ok (.iadd, 1) := by decide +kernel
theorem dL_law_373 : decode cL_law 373 = .ok (.iaload, 1) := by decide +kernel
theorem dL_law_374 : decode cL_law 374 = .ok (.aload_n 0, 1) := by decide +kernel
theorem dL_law_375 : decode cL_law 375 = .ok (.iload_n 3, 1) := by decide +kernel
theorem dL_law_376 : decode cL_law 376 = .ok (.iconst 2, 1) := by decide +kernel
theorem dL_law_377 : decode cL_law 377 = .ok (.iadd, 1) := by decide +kernel
theorem dL_law_378 : decode cL_law 378 = .ok (.iaload, 1) := by decide +kernel
theorem dL_law_379 : decode cL_law 379 = .ok (.invokevirtual 48, 3) := by decide +kernel
theorem dL_law_382 : decode cL_law 382 = .ok (.aload_n 2, 1) := by decide +kernel
theorem dL_law_383 : decode cL_law 383 = .ok (.aload_n 0, 1) := by decide +kernel
theorem dL_law_384 : decode cL_law 384 = .ok (.iload_n 3, 1) := by decide +kernel
theorem dL_law_385 : decode cL_law 385 = .ok (.iconst 1, 1) := by decide +kernel
theorem dL_law_386 : decode cL_law 386 = .ok (.iadd, 1) := by decide +kernel
theorem dL_law_387 : decode cL_law 387 = .ok (.iaload, 1) := by decide +kernel
theorem dL_law_388 : decode cL_law 388 = .ok (.aload_n 0, 1) := by decide +kernel
theorem dL_law_389 : decode cL_law 389 = .ok (.iload_n 3, 1) := by decide +kernel
theorem dL_law_390 : decode cL_law 390 = .ok (.iconst 2, 1) := by decide +kernel
theorem dL_law_391 : decode cL_law 391 = .ok (.iadd, 1) := by decide +kernel
theorem dL_law_392 : decode cL_law 392 = .ok (.iaload, 1) := by decide +kernel
theorem dL_law_393 : decode cL_law 393 = .ok (.invokevirtual 51, 3) := by decide +kernel
theorem dL_law_396 : decode cL_law 396 = .ok (.if_icmp .eq 520, 3) := by decide +kernel
theorem dL_law_399 : decode cL_law 399 = .ok (.iconst 0, 1) := by decide +kernel
theorem dL_law_400 : decode cL_law 400 = .ok (.ireturn, 1) := by decide +kernel
theorem dL_law_401 : decode cL_law 401 = .ok (.aload_n 1, 1) := by decide +kernel
theorem dL_law_402 : decode cL_law 402 = .ok (.aload_n 0, 1) := by decide +kernel
theorem dL_law_403 : decode cL_law 403 = .ok (.iload_n 3, 1) := by decide +kernel
theorem dL_law_404 : decode cL_law 404 = .ok (.iconst 1, 1) := by decide +kernel
theorem dL_law_405 : decode cL_law 405 = .ok (.iadd, 1) := by decide +kernel
theorem dL_law_406 : decode cL_law 406 = .ok (.iaload, 1) := by decide +kernel
theorem dL_law_407 : decode cL_law 407 = .ok (.invokevirtual 52, 3) := by decide +kernel
theorem dL_law_410 : decode cL_law 410 = .ok (.aload_n 2, 1) := by decide +kernel
theorem dL_law_411 : decode cL_law 411 = .ok (.aload_n 0, 1) := by decide +kernel
theorem dL_law_412 : decode cL_law 412 = .ok (.iload_n 3, 1) := by decide +kernel
theorem dL_law_413 : decode cL_law 413 = .ok (.iconst 1, 1) := by decide +kernel
theorem dL_law_414 : decode cL_law 414 = .ok (.iadd, 1) := by decide +kernel
theorem dL_law_415 : decode cL_law 415 = .ok (.iaload, 1) := by decide +kernel
theorem dL_law_416 : decode cL_law 416 = .ok (.invokevirtual 55, 3) := by decide +kernel
theorem dL_law_419 : decode cL_law 419 = .ok (.if_icmp .eq 497, 3) := by decide +kernel
theorem dL_law_422 : decode cL_law 422 = .ok (.iconst 0, 1) := by decide +kernel
theorem dL_law_423 : decode cL_law 423 = .ok (.ireturn, 1) := by decide +kernel
theorem dL_law_424 : decode cL_law 424 = .ok (.aload_n 1, 1) := by decide +kernel
theorem dL_law_425 : decode cL_law 425 = .ok (.invokevirtual 56, 3) := by decide +kernel
theorem dL_law_428 : decode cL_law 428 = .ok (.aload_n 2, 1) := by decide +kernel
theorem dL_law_429 : decode cL_law 429 = .ok (.invokevirtual 59, 3) := by decide +kernel
theorem dL_law_432 : decode cL_law 432 = .ok (.if_icmp .eq 484, 3) := by decide +kernel
theorem dL_law_435 : decode cL_law 435 = .ok (.iconst 0, 1) := by decide +kernel
theorem dL_law_436 : decode cL_law 436 = .ok (.ireturn, 1) := by decide +kernel
theorem dL_law_437 : decode cL_law 437 = .ok (.aload_n 1, 1) := by decide +kernel
theorem dL_law_438 : decode cL_law 438 = .ok (.invokevirtual 60, 3) := by decide +kernel
theorem dL_law_441 : decode cL_law 441 = .ok (.aload_n 2, 1) := by decide +kernel
theorem dL_law_442 : decode cL_law 442 = .ok (.invokevirtual 63, 3) := by decide +kernel
theorem dL_law_445 : decode cL_law 445 = .ok (.if_icmp .eq 471, 3) := by decide +kernel
theorem dL_law_448 : decode cL_law 448 = .ok (.iconst 0, 1) := by decide +kernel
theorem dL_law_449 : decode cL_law 449 = .ok (.ireturn, 1) := by decide +kernel
theorem dL_law_450 : decode cL_law 450 = .ok (.aload_n 1, 1) := by decide +kernel
theorem dL_law_451 : decode cL_law 451 = .ok (.invokevirtual 64, 3) := by decide +kernel
theorem dL_law_454 : decode cL_law 454 = .ok (.aload_n 2, 1) := by decide +kernel
theorem dL_law_455 : decode cL_law 455 = .ok (.invokevirtual 67, 3) := by decide +kernel
theorem dL_law_458 : decode cL_law 458 = .ok (.if_icmp .eq 458, 3) := by decide +kernel
theorem dL_law_461 : decode cL_law 461 = .ok (.iconst 0, 1) := by decide +kernel
theorem dL_law_462 : decode cL_law 462 = .ok (.ireturn, 1) := by decide +kernel
theorem dL_law_463 : decode cL_law 463 = .ok (.aload_n 1, 1) := by decide +kernel
theorem dL_law_464 : decode cL_law 464 = .ok (.invokevirtual 68, 3) := by decide +kernel
theorem dL_law_467 : decode cL_law 467 = .ok (.aload_n 2, 1) := by decide +kernel
theorem dL_law_468 : decode cL_law 468 = .ok (.invokevirtual 71, 3) := by decide +kernel
theorem dL_law_471 : decode cL_law 471 = .ok (.if_icmp .eq 445, 3) := by decide +kernel
theorem dL_law_474 : decode cL_law 474 = .ok (.iconst 0, 1) := by decide +kernel
theorem dL_law_475 : decode cL_law 475 = .ok (.ireturn, 1) := by decide +kernel
theorem dL_law_476 : decode cL_law 476 = .ok (.aload_n 1, 1) := by decide +kernel
theorem dL_law_477 : decode cL_law 477 = .ok (.invokevirtual 72, 3) := by decide +kernel
theorem dL_law_480 : decode cL_law 480 = .ok (.aload_n 2, 1) := by decide +kernel
theorem dL_law_481 : decode cL_law 481 = .ok (.invokevirtual 75, 3) := by decide +kernel
theorem dL_law_484 : decode cL_law 484 = .ok (.if_icmp .eq 432, 3) := by decide +kernel
theorem dL_law_487 : decode cL_law 487 = .ok (.iconst 0, 1) := by decide +kernel
theorem dL_law_488 : decode cL_law 488 = .ok (.ireturn, 1) := by decide +kernel
theorem dL_law_489 : decode cL_law 489 = .ok (.aload_n 1, 1) := by decide +kernel
theorem dL_law_490 : decode cL_law 490 = .ok (.aload_n 0, 1) := by decide +kernel
theorem dL_law_491 : decode cL_law 491 = .ok (.iload_n 3, 1) := by decide +kernel
theorem dL_law_492 : decode cL_law 492 = .ok (.iconst 1, 1) := by decide +kernel
theorem dL_law_493 : decode cL_law 493 = .ok (.iadd, 1) := by decide +kernel
theorem dL_law_494 : decode cL_law 494 = .ok (.iaload, 1) := by decide +kernel
theorem dL_law_495 : decode cL_law 495 = .ok (.aload_n 0, 1) := by decide +kernel
theorem dL_law_496 : decode cL_law 496 = .ok (.iload_n 3, 1) := by decide +kernel
theorem dL_law_497 : decode cL_law 497 = .ok (.iconst 2, 1) := by decide +kernel
theorem dL_law_498 : decode cL_law 498 = .ok (.iadd, 1) := by decide +kernel
theorem dL_law_499 : decode cL_law 499 = .ok (.iaload, 1) := by decide +kernel
theorem dL_law_500 : decode cL_law 500 = .ok (.invokevirtual 76, 3) := by decide +kernel
theorem dL_law_503 : decode cL_law 503 = .ok (.aload_n 2, 1) := by decide +kernel
theorem dL_law_504 : decode cL_law 504 = .ok (.aload_n 0, 1) := by decide +kernel
theorem dL_law_505 : decode cL_law 505 = .ok (.iload_n 3, 1) := by decide +kernel
theorem dL_law_506 : decode cL_law 506 = .ok (.iconst 1, 1) := by decide +kernel
theorem dL_law_507 : decode cL_law 507 = .ok (.iadd, 1) := by decide +kernel
theorem dL_law_508 : decode cL_law 508 = .ok (.iaload, 1) := by decide +kernel
theorem dL_law_509 : decode cL_law 509 = .ok (.aload_n 0, 1) := by decide +kernel
theorem dL_law_510 : decode cL_law 510 = .ok (.iload_n 3, 1) := by decide +kernel
theorem dL_law_511 : decode cL_law 511 = .ok (.iconst 2, 1) := by decide +kernel
theorem dL_law_512 : decode cL_law 512 = .ok (.iadd, 1) := by decide +kernel
theorem dL_law_513 : decode cL_law 513 = .ok (.iaload, 1) := by decide +kernel
theorem dL_law_514 : decode cL_law 514 = .ok (.invokevirtual 79, 3) := by decide +kernel
theorem dL_law_517 : decode cL_law 517 = .ok (.if_icmp .eq 399, 3) := by decide +kernel
theorem dL_law_520 : decode cL_law 520 = .ok (.iconst 0, 1) := by decide +kernel
theorem dL_law_521 : decode cL_law 521 = .ok (.ireturn, 1) := by decide +kernel
theorem dL_law_522 : decode cL_law 522 = .ok (.aload_n 1, 1) := by decide +kernel
theorem dL_law_523 : decode cL_law 523 = .ok (.aload_n 0, 1) := by decide +kernel
theorem dL_law_524 : decode cL_law 524 = .ok (.iload_n 3, 1) := by decide +kernel
theorem dL_law_525 : decode cL_law 525 = .ok (.iconst 1, 1) := by decide +kernel
theorem dL_law_526 : decode cL_law 526 = .ok (.iadd, 1) := by decide +kernel
theorem dL_law_527 : decode cL_law 527 = .ok (.iaload, 1) := by decide +kernel
theorem dL_law_528 : decode cL_law 528 = .ok (.aload_n 0, 1) := by decide +kernel
theorem dL_law_529 : decode cL_law 529 = .ok (.iload_n 3, 1) := by decide +kernel
theorem dL_law_530 : decode cL_law 530 = .ok (.iconst 2, 1) := by decide +kernel
theorem dL_law_531 : decode cL_law 531 = .ok (.iadd, 1) := by decide +kernel
theorem dL_law_532 : decode cL_law 532 = .ok (.iaload, 1) := by decide +kernel
theorem dL_law_533 : decode cL_law 533 = .ok (.aload_n 0, 1) := by decide +kernel
theorem dL_law_534 : decode cL_law 534 = .ok (.iload_n 3, 1) := by decide +kernel
theorem dL_law_535 : decode cL_law 535 = .ok (.iconst 3, 1) := by decide +kernel
theorem dL_law_536 : decode cL_law 536 = .ok (.iadd, 1) := by decide +kernel
theorem dL_law_537 : decode cL_law 537 = .ok (.iaload, 1) := by decide +kernel
theorem dL_law_538 : decode cL_law 538 = .ok (.invokevirtual 80, 3) := by decide +kernel
theorem dL_law_541 : decode cL_law 541 = .ok (.aload_n 2, 1) := by decide +kernel
theorem dL_law_542 : decode cL_law 542 = .ok (.aload_n 0, 1) := by decide +kernel
theorem dL_law_543 : decode cL_law 543 = .ok (.iload_n 3, 1) := by decide +kernel
theorem dL_law_544 : decode cL_law 544 = .ok (.iconst 1, 1) := by decide +kernel
theorem dL_law_545 : decode cL_law 545 = .ok (.iadd, 1) := by decide +kernel
theorem dL_law_546 : decode cL_law 546 = .ok (.iaload, 1) := by decide +kernel
theorem dL_law_547 : decode cL_law 547 = .ok (.aload_n 0, 1) := by decide +kernel
theorem dL_law_548 : decode cL_law 548 = .ok (.iload_n 3, 1) := by decide +kernel
theorem dL_law_549 : decode cL_law 549 = .ok (.iconst 2, 1) := by decide +kernel
theorem dL_law_550 : decode cL_law 550 = .ok (.iadd, 1) := by decide +kernel
theorem dL_law_551 : decode cL_law 551 = .ok (.iaload, 1) := by decide +kernel
theorem dL_law_552 : decode cL_law 552 = .ok (.aload_n 0, 1) := by decide +kernel
theorem dL_law_553 : decode cL_law 553 = .ok (.iload_n 3, 1) := by decide +kernel
theorem dL_law_554 : decode cL_law 554 = .ok (.iconst 3, 1) := by decide +kernel
theorem dL_law_555 : decode cL_law 555 = .ok (.iadd, 1) := by decide +kernel
theorem dL_law_556 : decode cL_law 556 = .ok (.iaload, 1) := by decide +kernel
theorem dL_law_557 : decode cL_law 557 = .ok (.invokevirtual 84, 3) := by decide +kernel
theorem dL_law_560 : decode cL_law 560 = .ok (.if_icmp .eq 356, 3) := by decide +kernel
theorem dL_law_563 : decode cL_law 563 = .ok (.iconst 0, 1) := by decide +kernel
theorem dL_law_564 : decode cL_law 564 = .ok (.ireturn, 1) := by decide +kernel
theorem dL_law_565 : decode cL_law 565 = .ok (.aload_n 1, 1) := by decide +kernel
theorem dL_law_566 : decode cL_law 566 = .ok (.invokevirtual 85, 3) := by decide +kernel
theorem dL_law_569 : decode cL_law 569 = .ok (.aload_n 2, 1) := by decide +kernel
theorem dL_law_570 : decode cL_law 570 = .ok (.invokevirtual 88, 3) := by decide +kernel
theorem dL_law_573 : decode cL_law 573 = .ok (.if_icmp .eq 343, 3) := by decide +kernel
theorem dL_law_576 : decode cL_law 576 = .ok (.iconst 0, 1) := by decide +kernel
theorem dL_law_577 : decode cL_law 577 = .ok (.ireturn, 1) := by decide +kernel
theorem dL_law_578 : decode cL_law 578 = .ok (.aload_n 1, 1) := by decide +kernel
theorem dL_law_579 : decode cL_law 579 = .ok (.invokevirtual 89, 3) := by decide +kernel
theorem dL_law_582 : decode cL_law 582 = .ok (.aload_n 2, 1) := by decide +kernel
theorem dL_law_583 : decode cL_law 583 = .ok (.invokevirtual 92, 3) := by decide +kernel
theorem dL_law_586 : decode cL_law 586 = .ok (.if_icmp .eq 330, 3) := by decide +kernel
theorem dL_law_589 : decode cL_law 589 = .ok (.iconst 0, 1) := by decide +kernel
theorem dL_law_590 : decode cL_law 590 = .ok (.ireturn, 1) := by decide +kernel
theorem dL_law_591 : decode cL_law 591 = .ok (.aload_n 1, 1) := by decide +kernel
theorem dL_law_592 : decode cL_law 592 = .ok (.aload_n 0, 1) := by decide +kernel
theorem dL_law_593 : decode cL_law 593 = .ok (.iload_n 3, 1) := by decide +kernel
theorem dL_law_594 : decode cL_law 594 = .ok (.iconst 1, 1) := by decide +kernel
theorem dL_law_595 : decode cL_law 595 = .ok (.iadd, 1) := by decide +kernel
theorem dL_law_596 : decode cL_law 596 = .ok (.iaload, 1) := by decide +kernel
theorem dL_law_597 : decode cL_law 597 = .ok (.invokevirtual 93, 3) := by decide +kernel
theorem dL_law_600 : decode cL_law 600 = .ok (.aload_n 2, 1) := by decide +kernel
theorem dL_law_601 : decode cL_law 601 = .ok (.aload_n 0, 1) := by decide +kernel
theorem dL_law_602 : decode cL_law 602 = .ok (.iload_n 3, 1) := by decide +kernel
theorem dL_law_603 : decode cL_law 603 = .ok (.iconst 1, 1) := by decide +kernel
theorem dL_law_604 : decode cL_law 604 = .ok (.iadd, 1) := by decide +kernel
theorem dL_law_605 : decode cL_law 605 = .ok (.iaload, 1) := by decide +kernel
theorem dL_law_606 : decode cL_law 606 = .ok (.invokevirtual 96, 3) := by decide +kernel
theorem dL_law_609 : decode cL_law 609 = .ok (.if_icmp .eq 307, 3) := by decide +kernel
theorem dL_law_612 : decode cL_law 612 = .ok (.iconst 0, 1) := by decide +kernel
theorem dL_law_613 : decode cL_law 613 = .ok (.ireturn, 1) := by decide +kernel
theorem dL_law_614 : decode cL_law 614 = .ok (.aload_n 1, 1) := by decide +kernel
theorem dL_law_615 : decode cL_law 615 = .ok (.aload_n 0, 1) := by decide +kernel
theorem dL_law_616 : decode cL_law 616 = .ok (.iload_n 3, 1) := by decide +kernel
theorem dL_law_617 : decode cL_law 617 = .ok (.iconst 1, 1) := by decide +kernel
theorem dL_law_618 : decode cL_law 618 = .ok (.iadd, 1) := by decide +kernel
theorem dL_law_619 : decode cL_law 619 = .ok (.iaload, 1) := by decide +kernel
theorem dL_law_620 : decode cL_law 620 = .ok (.invokevirtual 97, 3) := by decide +kernel
theorem dL_law_623 : decode cL_law 623 = .ok (.aload_n 2, 1) := by decide +kernel
theorem dL_law_624 : decode cL_law 624 = .ok (.aload_n 0, 1) := by decide +kernel
theorem dL_law_625 : decode cL_law 625 = .ok (.iload_n 3, 1) := by decide +kernel
theorem dL_law_626 : decode cL_law 626 = .ok (.iconst 1, 1) := by decide +kernel
theorem dL_law_627 : decode cL_law 627 = .ok (.iadd, 1) := by decide +kernel
theorem dL_law_628 : decode cL_law 628 = .ok (.iaload, 1) := by decide +kernel
theorem dL_law_629 : decode cL_law 629 = .ok (.invokevirtual 100, 3) := by decide +kernel
theorem dL_law_632 : decode cL_law 632 = .ok (.if_icmp .eq 284, 3) := by decide +kernel
theorem dL_law_635 : decode cL_law 635 = .ok (.iconst 0, 1) := by decide +kernel
theorem dL_law_636 : decode cL_law 636 = .ok (.ireturn, 1) := by decide +kernel
theorem dL_law_637 : decode cL_law 637 = .ok (.aload_n 1, 1) := by decide +kernel
theorem dL_law_638 : decode cL_law 638 = .ok (.aload_n 0, 1) := by decide +kernel
theorem dL_law_639 : decode cL_law 639 = .ok (.iload_n 3, 1) := by decide +kernel
theorem dL_law_640 : decode cL_law 640 = .ok (.iconst 1, 1) := by decide +kernel
theorem dL_law_641 : decode cL_law 641 = .ok (.iadd, 1) := by decide +kernel
theorem dL_law_642 : decode cL_law 642 = .ok (.iaload, 1) := by decide +kernel
theorem dL_law_643 : decode cL_law 643 = .ok (.invokevirtual 101, 3) := by decide +kernel
theorem dL_law_646 : decode cL_law 646 = .ok (.aload_n 2, 1) := by decide +kernel
theorem dL_law_647 : decode cL_law 647 = .ok (.aload_n 0, 1) := by decide +kernel
theorem dL_law_648 : decode cL_law 648 = .ok (.iload_n 3, 1) := by decide +kernel
theorem dL_law_649 : decode cL_law 649 = .ok (.iconst 1, 1) := by decide +kernel
theorem dL_law_650 : decode cL_law 650 = .ok (.iadd, 1) := by decide +kernel
theorem dL_law_651 : decode cL_law 651 = .ok (.iaload, 1) := by decide +kernel
theorem dL_law_652 : decode cL_law 652 = .ok (.invokevirtual 104, 3) := by decide +kernel
theorem dL_law_655 : decode cL_law 655 = .ok (.if_icmp .eq 261, 3) := by decide +kernel
theorem dL_law_658 : decode cL_law 658 = .ok (.iconst 0, 1) := by decide +kernel
theorem dL_law_659 : decode cL_law 659 = .ok (.ireturn, 1) := by decide +kernel
theorem dL_law_660 : decode cL_law 660 = .ok (.aload_n 1, 1) := by decide +kernel
theorem dL_law_661 : decode cL_law 661 = .ok (.aload_n 0, 1) := by decide +kernel
theorem dL_law_662 : decode cL_law 662 = .ok (.iload_n 3, 1) := by decide +kernel
theorem dL_law_663 : decode cL_law 663 = .ok (.iconst 1, 1) := by decide +kernel
theorem dL_law_664 : decode cL_law 664 = .ok (.iadd, 1) := by decide +kernel
theorem dL_law_665 : decode cL_law 665 = .ok (.iaload, 1) := by decide +kernel
theorem dL_law_666 : decode cL_law 666 = .ok (.invokevirtual 105, 3) := by decide +kernel
theorem dL_law_669 : decode cL_law 669 = .ok (.aload_n 2, 1) := by decide +kernel
theorem dL_law_670 : decode cL_law 670 = .ok (.aload_n 0, 1) := by decide +kernel
theorem dL_law_671 : decode cL_law 671 = .ok (.iload_n 3, 1) := by decide +kernel
theorem dL_law_672 : decode cL_law 672 = .ok (.iconst 1, 1) := by decide +kernel
theorem dL_law_673 : decode cL_law 673 = .ok (.iadd, 1) := by decide +kernel
theorem dL_law_674 : decode cL_law 674 = .ok (.iaload, 1) := by decide +kernel
theorem dL_law_675 : decode cL_law 675 = .ok (.invokevirtual 108, 3) := by decide +kernel
theorem dL_law_678 : decode cL_law 678 = .ok (.if_icmp .eq 238, 3) := by decide +kernel
theorem dL_law_681 : decode cL_law 681 = .ok (.iconst 0, 1) := by decide +kernel
theorem dL_law_682 : decode cL_law 682 = .ok (.ireturn, 1) := by decide +kernel
theorem dL_law_683 : decode cL_law 683 = .ok (.aload_n 1, 1) := by decide +kernel
theorem dL_law_684 : decode cL_law 684 = .ok (.aload_n 0, 1) := by decide +kernel
theorem dL_law_685 : decode cL_law 685 = .ok (.iload_n 3, 1) := by decide +kernel
theorem dL_law_686 : decode cL_law 686 = .ok (.iconst 1, 1) := by decide +kernel
theorem dL_law_687 : decode cL_law 687 = .ok (.iadd, 1) := by decide +kernel
theorem dL_law_688 : decode cL_law 688 = .ok (.iaload, 1) := by decide +kernel
theorem dL_law_689 : decode cL_law 689 = .ok (.invokevirtual 109, 3) := by decide +kernel
theorem dL_law_692 : decode cL_law 692 = .ok (.aload_n 2, 1) := by decide +kernel
theorem dL_law_693 : decode cL_law 693 = .ok (.aload_n 0, 1) := by decide +kernel
theorem dL_law_694 : decode cL_law 694 = .ok (.iload_n 3, 1) := by decide +kernel
theorem dL_law_695 : decode cL_law 695 = .ok (.iconst 1, 1) := by decide +kernel
theorem dL_law_696 : decode cL_law 696 = .ok (.iadd, 1) := by decide +kernel
theorem dL_law_697 : decode cL_law 697 = .ok (.iaload, 1) := by decide +kernel
theorem dL_law_698 : decode cL_law 698 = .ok (.invokevirtual 112, 3) := by decide +kernel
theorem dL_law_701 : decode cL_law 701 = .ok (.if_icmp .eq 215, 3) := by decide +kernel
theorem dL_law_704 : decode cL_law 704 = .ok (.iconst 0, 1) := by decide +kernel
theorem dL_law_705 : decode cL_law 705 = .ok (.ireturn, 1) := by decide +kernel
theorem dL_law_706 : decode cL_law 706 = .ok (.aload_n 1, 1) := by decide +kernel
theorem dL_law_707 : decode cL_law 707 = .ok (.invokevirtual 113, 3) := by decide +kernel
theorem dL_law_710 : decode cL_law 710 = .ok (.aload_n 2, 1) := by decide +kernel
theorem dL_law_711 : decode cL_law 711 = .ok (.invokevirtual 116, 3) := by decide +kernel
theorem dL_law_714 : decode cL_law 714 = .ok (.if_icmp .eq 202, 3) := by decide +kernel
theorem dL_law_717 : decode cL_law 717 = .ok (.iconst 0, 1) := by decide +kernel
theorem dL_law_718 : decode cL_law 718 = .ok (.ireturn, 1) := by decide +kernel
theorem dL_law_719 : decode cL_law 719 = .ok (.aload_n 1, 1) := by decide +kernel
theorem dL_law_720 : decode cL_law 720 = .ok (.aload_n 0, 1) := by decide +kernel
theorem dL_law_721 : decode cL_law 721 = .ok (.iload_n 3, 1) := by decide +kernel
theorem dL_law_722 : decode cL_law 722 = .ok (.iconst 1, 1) := by decide +kernel
theorem dL_law_723 : decode cL_law 723 = .ok (.iadd, 1) := by decide +kernel
theorem dL_law_724 : decode cL_law 724 = .ok (.iaload, 1) := by decide +kernel
theorem dL_law_725 : decode cL_law 725 = .ok (.invokevirtual 117, 3) := by decide +kernel
theorem dL_law_728 : decode cL_law 728 = .ok (.aload_n 2, 1) := by decide +kernel
theorem dL_law_729 : decode cL_law 729 = .ok (.aload_n 0, 1) := by decide +kernel
theorem dL_law_730 : decode cL_law 730 = .ok (.iload_n 3, 1) := by decide +kernel
theorem dL_law_731 : decode cL_law 731 = .ok (.iconst 1, 1) := by decide +kernel
theorem dL_law_732 : decode cL_law 732 = .ok (.iadd, 1) := by decide +kernel
theorem dL_law_733 : decode cL_law 733 = .ok (.iaload, 1) := by decide +kernel
theorem dL_law_734 : decode cL_law 734 = .ok (.invokevirtual 120, 3) := by decide +kernel
theorem dL_law_737 : decode cL_law 737 = .ok (.if_icmp .eq 179, 3) := by decide +kernel
theorem dL_law_740 : decode cL_law 740 = .ok (.iconst 0, 1) := by decide +kernel
theorem dL_law_741 : decode cL_law 741 = .ok (.ireturn, 1) := by decide +kernel
theorem dL_law_742 : decode cL_law 742 = .ok (.aload_n 1, 1) := by decide +kernel
theorem dL_law_743 : decode cL_law 743 = .ok (.aload_n 0, 1) := by decide +kernel
theorem dL_law_744 : decode cL_law 744 = .ok (.iload_n 3, 1) := by decide +kernel
theorem dL_law_745 : decode cL_law 745 = .ok (.iconst 1, 1) := by decide +kernel
theorem dL_law_746 : decode cL_law 746 = .ok (.iadd, 1) := by decide +kernel
theorem dL_law_747 : decode cL_law 747 = .ok (.iaload, 1) := by decide +kernel
theorem dL_law_748 : decode cL_law 748 = .ok (.invokevirtual 121, 3) := by decide +kernel
theorem dL_law_751 : decode cL_law 751 = .ok (.aload_n 2, 1) := by decide +kernel
theorem dL_law_752 : decode cL_law 752 = .ok (.aload_n 0, 1) := by decide +kernel
theorem dL_law_753 : decode cL_law 753 = .ok (.iload_n 3, 1) := by decide +kernel
theorem dL_law_754 : decode cL_law 754 = .ok (.iconst 1, 1) := by decide +kernel
theorem dL_law_755 : decode cL_law 755 = .ok (.iadd, 1) := by decide +kernel
theorem dL_law_756 : decode cL_law 756 = .ok (.iaload, 1) := by decide +kernel
theorem dL_law_757 : decode cL_law 757 = .ok (.invokevirtual 124, 3) := by decide +kernel
theorem dL_law_760 : decode cL_law 760 = .ok (.if_icmp .eq 156, 3) := by decide +kernel
theorem dL_law_763 : decode cL_law 763 = .ok (.iconst 0, 1) := by decide +kernel
theorem dL_law_764 : decode cL_law 764 = .ok (.ireturn, 1) := by decide +kernel
theorem dL_law_765 : decode cL_law 765 = .ok (.aload_n 1, 1) := by decide +kernel
theorem dL_law_766 : decode cL_law 766 = .ok (.invokevirtual 125, 3) := by decide +kernel
theorem dL_law_769 : decode cL_law 769 = .ok (.aload_n 2, 1) := by decide +kernel
theorem dL_law_770 : decode cL_law 770 = .ok (.invokevirtual 128, 3) := by decide +kernel
theorem dL_law_773 : decode cL_law 773 = .ok (.if_icmp .eq 143, 3) := by decide +kernel
theorem dL_law_776 : decode cL_law 776 = .ok (.iconst 0, 1) := by decide +kernel
theorem dL_law_777 : decode cL_law 777 = .ok (.ireturn, 1) := by decide +kernel
theorem dL_law_778 : decode cL_law 778 = .ok (.aload_n 1, 1) := by decide +kernel
theorem dL_law_779 : decode cL_law 779 = .ok (.invokevirtual 129, 3) := by decide +kernel
theorem dL_law_782 : decode cL_law 782 = .ok (.f2d, 1) := by decide +kernel
theorem dL_law_783 : decode cL_law 783 = .ok (.dstore 4, 2) := by decide +kernel
theorem dL_law_785 : decode cL_law 785 = .ok (.aload_n 2, 1) := by decide +kernel
theorem dL_law_786 : decode cL_law 786 = .ok (.invokevirtual 133, 3) := by decide +kernel
theorem dL_law_789 : decode cL_law 789 = .ok (.f2d, 1) := by decide +kernel
theorem dL_law_790 : decode cL_law 790 = .ok (.dstore 6, 2) := by decide +kernel
theorem dL_law_792 : decode cL_law 792 = .ok (.dload 4, 2) := by decide +kernel
theorem dL_law_794 : decode cL_law 794 = .ok (.dload 6, 2) := by decide +kernel
theorem dL_law_796 : decode cL_law 796 = .ok (.dcmp .l, 1) := by decide +kernel
theorem dL_law_797 : decode cL_law 797 = .ok (.ifCond .eq 21, 3) := by decide +kernel
theorem dL_law_800 : decode cL_law 800 = .ok (.dload 4, 2) := by decide +kernel
theorem dL_law_802 : decode cL_law 802 = .ok (.dload 4, 2) := by decide +kernel
theorem dL_law_804 : decode cL_law 804 = .ok (.dcmp .l, 1) := by decide +kernel
theorem dL_law_805 : decode cL_law 805 = .ok (.ifCond .eq 11, 3) := by decide +kernel
theorem dL_law_808 : decode cL_law 808 = .ok (.dload 6, 2) := by decide +kernel
theorem dL_law_810 : decode cL_law 810 = .ok (.dload 6, 2) := by decide +kernel
theorem dL_law_812 : decode cL_law 812 = .ok (.dcmp .l, 1) := by decide +kernel
theorem dL_law_813 : decode cL_law 813 = .ok (.ifCond .ne 5, 3) := by decide +kernel
theorem dL_law_816 : decode cL_law 816 = .ok (.iconst 0, 1) := by decide +kernel
theorem dL_law_817 : decode cL_law 817 = .ok (.ireturn, 1) := by decide +kernel
theorem dL_law_818 : decode cL_law 818 = .ok (.goto 98, 3) := by decide +kernel
theorem dL_law_821 : decode cL_law 821 = .ok (.aload_n 1, 1) := by decide +kernel
theorem dL_law_822 : decode cL_law 822 = .ok (.invokevirtual 134, 3) := by decide +kernel
theorem dL_law_825 : decode cL_law 825 = .ok (.aload_n 2, 1) := by decide +kernel
theorem dL_law_826 : decode cL_law 826 = .ok (.invokevirtual 137, 3) := by decide +kernel
theorem dL_law_829 : decode cL_law 829 = .ok (.if_icmp .eq 87, 3) := by decide +kernel
theorem dL_law_832 : decode cL_law 832 = .ok (.iconst 0, 1) := by decide +kernel
theorem dL_law_833 : decode cL_law 833 = .ok (.ireturn, 1) := by decide +kernel
theorem dL_law_834 : decode cL_law 834 = .ok (.aload_n 1, 1) := by decide +kernel
theorem dL_law_835 : decode cL_law 835 = .ok (.aload_n 0, 1) := by decide +kernel
theorem dL_law_836 : decode cL_law 836 = .ok (.iload_n 3, 1) := by decide +kernel
theorem dL_law_837 : decode cL_law 837 = .ok (.iconst 1, 1) := by decide +kernel
theorem dL_law_838 : decode cL_law 838 = .ok (.iadd, 1) := by decide +kernel
theorem dL_law_839 : decode cL_law 839 = .ok (.iaload, 1) := by decide +kernel
theorem dL_law_840 : decode cL_law 840 = .ok (.invokevirtual 138, 3) := by decide +kernel
theorem dL_law_843 : decode cL_law 843 = .ok (.aload_n 2, 1) := by decide +kernel
theorem dL_law_844 : decode cL_law 844 = .ok (.aload_n 0, 1) := by decide +kernel
theorem dL_law_845 : decode cL_law 845 = .ok (.iload_n 3, 1) := by decide +kernel
theorem dL_law_846 : decode cL_law 846 = .ok (.iconst 1, 1) := by decide +kernel
theorem dL_law_847 : decode cL_law 847 = .ok (.iadd, 1) := by decide +kernel
theorem dL_law_848 : decode cL_law 848 = .ok (.iaload, 1) := by decide +kernel
theorem dL_law_849 : decode cL_law 849 = .ok (.invokevirtual 141, 3) := by decide +kernel
theorem dL_law_852 : decode cL_law 852 = .ok (.if_icmp .eq 64, 3) := by decide +kernel
theorem dL_law_855 : decode cL_law 855 = .ok (.iconst 0, 1) := by decide +kernel
theorem dL_law_856 : decode cL_law 856 = .ok (.ireturn, 1) := by decide +kernel
theorem dL_law_857 : decode cL_law 857 = .ok (.aload_n 1, 1) := by decide +kernel
theorem dL_law_858 : decode cL_law 858 = .ok (.aload_n 0, 1) := by decide +kernel
theorem dL_law_859 : decode cL_law 859 = .ok (.iload_n 3, 1) := by decide +kernel
theorem dL_law_860 : decode cL_law 860 = .ok (.iconst 1, 1) := by decide +kernel
theorem dL_law_861 : decode cL_law 861 = .ok (.iadd, 1) := by decide +kernel
theorem dL_law_862 : decode cL_law 862 = .ok (.iaload, 1) := by decide +kernel
theorem dL_law_863 : decode cL_law 863 = .ok (.invokevirtual 142, 3) := by decide +kernel
theorem dL_law_866 : decode cL_law 866 = .ok (.aload_n 2, 1) := by decide +kernel
theorem dL_law_867 : decode cL_law 867 = .ok (.aload_n 0, 1) := by decide +kernel
theorem dL_law_868 : decode cL_law 868 = .ok (.iload_n 3, 1) := by decide +kernel
theorem dL_law_869 : decode cL_law 869 = .ok (.iconst 1, 1) := by decide +kernel
theorem dL_law_870 : decode cL_law 870 = .ok (.iadd, 1) := by decide +kernel
theorem dL_law_871 : decode cL_law 871 = .ok (.iaload, 1) := by decide +kernel
theorem dL_law_872 : decode cL_law 872 = .ok (.invokevirtual 145, 3) := by decide +kernel
theorem dL_law_875 : decode cL_law 875 = .ok (.if_icmp .eq 41, 3) := by decide +kernel
theorem dL_law_878 : decode cL_law 878 = .ok (.iconst 0, 1) := by decide +kernel
theorem dL_law_879 : decode cL_law 879 = .ok (.ireturn, 1) := by decide +kernel
theorem dL_law_880 : decode cL_law 880 = .ok (.aload_n 1, 1) := by decide +kernel
theorem dL_law_881 : decode cL_law 881 = .ok (.aload_n 0, 1) := by decide +kernel
theorem dL_law_882 : decode cL_law 882 = .ok (.iload_n 3, 1) := by decide +kernel
theorem dL_law_883 : decode cL_law 883 = .ok (.iconst 1, 1) := by decide +kernel
theorem dL_law_884 : decode cL_law 884 = .ok (.iadd, 1) := by decide +kernel
theorem dL_law_885 : decode cL_law 885 = .ok (.iaload, 1) := by decide +kernel
theorem dL_law_886 : decode cL_law 886 = .ok (.invokevirtual 146, 3) := by decide +kernel
theorem dL_law_889 : decode cL_law 889 = .ok (.aload_n 2, 1) := by decide +kernel
theorem dL_law_890 : decode cL_law 890 = .ok (.aload_n 0, 1) := by decide +kernel
theorem dL_law_891 : decode cL_law 891 = .ok (.iload_n 3, 1) := by decide +kernel
theorem dL_law_892 : decode cL_law 892 = .ok (.iconst 1, 1) := by decide +kernel
theorem dL_law_893 : decode cL_law 893 = .ok (.iadd, 1) := by decide +kernel
theorem dL_law_894 : decode cL_law 894 = .ok (.iaload, 1) := by decide +kernel
theorem dL_law_895 : decode cL_law 895 = .ok (.invokevirtual 149, 3) := by decide +kernel
theorem dL_law_898 : decode cL_law 898 = .ok (.if_icmp .eq 18, 3) := by decide +kernel
theorem dL_law_901 : decode cL_law 901 = .ok (.iconst 0, 1) := by decide +kernel
theorem dL_law_902 : decode cL_law 902 = .ok (.ireturn, 1) := by decide +kernel
theorem dL_law_903 : decode cL_law 903 = .ok (.aload_n 1, 1) := by decide +kernel
theorem dL_law_904 : decode cL_law 904 = .ok (.invokevirtual 150, 3) := by decide +kernel
theorem dL_law_907 : decode cL_law 907 = .ok (.aload_n 2, 1) := by decide +kernel
theorem dL_law_908 : decode cL_law 908 = .ok (.invokevirtual 153, 3) := by decide +kernel
theorem dL_law_911 : decode cL_law 911 = .ok (.if_icmp .eq 5, 3) := by decide +kernel
theorem dL_law_914 : decode cL_law 914 = .ok (.iconst 0, 1) := by decide +kernel
theorem dL_law_915 : decode cL_law 915 = .ok (.ireturn, 1) := by decide +kernel
theorem dL_law_916 : decode cL_law 916 = .ok (.iinc 3 4, 3) := by decide +kernel
theorem dL_law_919 : decode cL_law 919 = .ok (.goto (-901), 3) := by decide +kernel
theorem dL_law_922 : decode cL_law 922 = .ok (.iconst 1, 1) := by decide +kernel
theorem dL_law_923 : decode cL_law 923 = .ok (.ireturn, 1) := by decide +kernel
end
section
/-! one list of words for every method: the tables' words that a call may hand on -/
def lw_keep : Cond → Bool
  | .arrayOver _ => false
  | .privateMethod _ => false
  | .soleField _ _ => false
  | .superclass _ _ => false
  | .methodLinkNest _ _ _ _ => false
  | w => goodWord w
def lw_all : List Cond := lw_tbl.filter lw_keep
theorem lw_keep_good {w : Cond} (h : lw_keep w = true) : goodWord w = true := by
  cases w <;> first | exact h | cases h
theorem lw_all_tbl {w : Cond} (h : w ∈ lw_all) : w ∈ lw_tbl := (List.mem_filter.mp h).1
theorem lw_all_good {w : Cond} (h : w ∈ lw_all) : (w.onTables && w.keeps) = true ∨ ∃ ty, w = .arrayClass ty := good_of_word (lw_keep_good (List.mem_filter.mp h).2)
theorem lw_good : GoodIn lw_all lw_all := fun _ h => ⟨h, lw_all_good h⟩
theorem lw_goodc {w : Cond} (h : w ∈ lw_all) : GoodIn lw_all (w :: lw_all) := fun _ q => (List.mem_cons.mp q).elim (fun e => e ▸ ⟨h, lw_all_good h⟩) (fun q => ⟨q, lw_all_good q⟩)
theorem lw_mem {w : Cond} (i : Nat) (h : lw_tbl[i]? = some w) (hk : lw_keep w = true) : w ∈ lw_all := List.mem_filter.mpr ⟨List.mem_of_getElem? h, hk⟩
theorem lw_in {C : String} {T : u_T} {N : Nat} (is : List Nat) (h : (u_ws C T N).map some = is.map (fun i => lw_tbl[i]?)) (hk : (u_ws C T N).all lw_keep = true) : ∀ w ∈ u_ws C T N, w ∈ lw_all := by
  intro w hw
  have h1 : some w ∈ (u_ws C T N).map some := List.mem_map.mpr ⟨w, hw, rfl⟩
  rw [h] at h1
  obtain ⟨i, -, hi⟩ := List.mem_map.mp h1
  exact lw_mem i hi (List.all_eq_true.mp hk w hw)
/-- a field's link from class 'own' at pool entry 'idx': the k-th field of the ci-th class -/
def FW (own : String) (idx ci k : Nat) : Prop := ∃ (C : String) (T : u_T) (N : Nat), vwCl[ci]? = some (C, T, N) ∧ (∀ w ∈ u_ws C T N, w ∈ lw_all) ∧ k < N ∧ Cond.fieldLink own idx C (T k).2.1 (T k).2.2.1 ∈ lw_all ∧ (T k).1 = C
def FP (ci k : Nat) (ty : FieldType) (fin : Bool) : Prop := ∃ (C : String) (T : u_T) (N : Nat) (ty0 : Nat → FieldType), vwCl[ci]? = some (C, T, N) ∧ (∀ w ∈ u_ws C T N, w ∈ lw_all) ∧ k < N ∧ (∀ j, j < N → parseFieldDescriptor (T j).2.2.1 = some (ty0 j)) ∧ (∀ a, a < N → ∀ b, b < N → a ≠ b → (T a).2.1 ≠ (T b).2.1) ∧ parseFieldDescriptor (T k).2.2.1 = some ty ∧ (T k).2.2.2 = fin
/-- a call's words -/
def CB (y : MethodName) (b : ByteArray) (mL : Nat) (ret : Option FieldType) (k : Nat) : Prop := Cond.code y b mL ret ∈ lw_all ∧ Cond.initialized y.cls ∈ lw_all ∧ (y.cls ≠ "java/lang/invoke/MethodHandle" ∧ y.cls ≠ "java/lang/invoke/VarHandle") ∧ (parseMethodDescriptor y.desc).map (fun d => d.parameters.length) = some k
def CWV (own : String) (idx : Nat) (y : MethodName) (b : ByteArray) (mL : Nat) (ret : Option FieldType) (k : Nat) : Prop := CB y b mL ret k ∧ Cond.methodLink own idx y ∈ lw_all ∧ Cond.instanceMethod y ∈ lw_all ∧ Cond.selects y.cls y y ∈ lw_all
def CWS (own : String) (idx : Nat) (y : MethodName) (b : ByteArray) (mL : Nat) (ret : Option FieldType) (k : Nat) : Prop := CB y b mL ret k ∧ Cond.methodLink own idx y ∈ lw_all ∧ Cond.static y ∈ lw_all
def CWI (own : String) (idx : Nat) (y : MethodName) (b : ByteArray) (mL : Nat) (k : Nat) : Prop := CB y b mL none k ∧ Cond.methodLink own idx y ∈ lw_all ∧ Cond.instanceMethod y ∈ lw_all ∧ y.name = "<init>"
def nestH : String := "WriteOnceDisc"
def CWSN (nw : List Cond) (own : String) (idx : Nat) (y : MethodName) (b : ByteArray) (mL : Nat) (ret : Option FieldType) (k : Nat) : Prop := CB y b mL ret k ∧ Cond.methodLinkNest own idx y nestH ∈ nw ∧ Cond.static y ∈ lw_all
def CWIN (nw : List Cond) (own : String) (idx : Nat) (y : MethodName) (b : ByteArray) (mL : Nat) (k : Nat) : Prop := CB y b mL none k ∧ Cond.methodLinkNest own idx y nestH ∈ nw ∧ Cond.instanceMethod y ∈ lw_all ∧ y.name = "<init>"
/-- a new object's words -/
def NW (own : String) (idx ci : Nat) (fs : List Value) : Prop := ∃ (C : String) (T : u_T) (N : Nat) (ty : Nat → FieldType), vwCl[ci]? = some (C, T, N) ∧ (∀ w ∈ u_ws C T N, w ∈ lw_all) ∧ (∀ k, k < N → parseFieldDescriptor (T k).2.2.1 = some (ty k)) ∧ Cond.classLink own idx C ∈ lw_all ∧ Cond.instantiable C N ∈ lw_all ∧ Cond.initialized C ∈ lw_all ∧ (∀ j, j < N → defaultValue (ty j) = vp_V fs j) ∧ fs.length = N
def nestW : List Cond := [(Jvm.Cond.methodLinkNest "WriteOnceDisc$Disc" (28 : Nat) ({ cls := "WriteOnceDisc$Session", name := "<init>", desc := "()V" } : Jvm.MethodName) "WriteOnceDisc"), (Jvm.Cond.methodLinkNest "WriteOnceDisc" (25 : Nat) ({ cls := "WriteOnceDisc$CommandText", name := "<init>", desc := "()V" } : Jvm.MethodName) "WriteOnceDisc"), (Jvm.Cond.methodLinkNest "WriteOnceDisc$Disc" (65 : Nat) ({ cls := "WriteOnceDisc", name := "isName", desc := "(I)Z" } : Jvm.MethodName) "WriteOnceDisc"), (Jvm.Cond.methodLinkNest "WriteOnceDisc$Disc" (69 : Nat) ({ cls := "WriteOnceDisc", name := "isFileSize", desc := "(I)Z" } : Jvm.MethodName) "WriteOnceDisc"), (Jvm.Cond.methodLinkNest "WriteOnceDisc$Session" (40 : Nat) ({ cls := "WriteOnceDisc", name := "isName", desc := "(I)Z" } : Jvm.MethodName) "WriteOnceDisc"), (Jvm.Cond.methodLinkNest "WriteOnceDisc$Disc" (116 : Nat) ({ cls := "WriteOnceDisc", name := "isSector", desc := "(I)Z" } : Jvm.MethodName) "WriteOnceDisc"), (Jvm.Cond.methodLinkNest "WriteOnceDisc$Disc" (119 : Nat) ({ cls := "WriteOnceDisc", name := "isSetting", desc := "(I)Z" } : Jvm.MethodName) "WriteOnceDisc")]
theorem in_X0 : ∀ w ∈ u_ws RX0 TX0 6, w ∈ lw_all := lw_in [180, 182, 184, 186, 188, 190] (by decide +kernel) (by decide +kernel)
theorem in_X1 : ∀ w ∈ u_ws RX1 TX1 7, w ∈ lw_all := lw_in [128, 130, 132, 134, 136, 138, 140] (by decide +kernel) (by decide +kernel)
theorem in_X2 : ∀ w ∈ u_ws RX2 TX2 3, w ∈ lw_all := lw_in [156, 158, 160] (by decide +kernel) (by decide +kernel)
theorem in_X3 : ∀ w ∈ u_ws RX3 TX3 7, w ∈ lw_all := lw_in [99, 101, 103, 105, 107, 109, 111] (by decide +kernel) (by decide +kernel)
theorem in_X4 : ∀ w ∈ u_ws RX4 TX4 3, w ∈ lw_all := lw_in [306, 308, 310] (by decide +kernel) (by decide +kernel)
theorem in_X5 : ∀ w ∈ u_ws RX5 TX5 3, w ∈ lw_all := lw_in [197, 199, 201] (by decide +kernel) (by decide +kernel)
theorem in_X6 : ∀ w ∈ u_ws RX6 TX6 11, w ∈ lw_all := lw_in [612, 614, 616, 618, 620, 622, 624, 626, 628, 630, 632] (by decide +kernel) (by decide +kernel)
theorem fp_X0_0 : FP 0 0 (.array .char) true := ⟨RX0, TX0, 6, tyX0, rfl, in_X0, by decide, tyX0_ok, nmX0, by decide +kernel, by decide +kernel⟩
theorem fp_X0_1 : FP 0 1 .int false := ⟨RX0, TX0, 6, tyX0, rfl, in_X0, by decide, tyX0_ok, nmX0, by decide +kernel, by decide +kernel⟩
theorem fp_X0_2 : FP 0 2 .int false := ⟨RX0, TX0, 6, tyX0, rfl, in_X0, by decide, tyX0_ok, nmX0, by decide +kernel, by decide +kernel⟩
theorem fp_X0_3 : FP 0 3 .int false := ⟨RX0, TX0, 6, tyX0, rfl, in_X0, by decide, tyX0_ok, nmX0, by decide +kernel, by decide +kernel⟩
theorem fp_X0_4 : FP 0 4 .int false := ⟨RX0, TX0, 6, tyX0, rfl, in_X0, by decide, tyX0_ok, nmX0, by decide +kernel, by decide +kernel⟩
theorem fp_X0_5 : FP 0 5 .int false := ⟨RX0, TX0, 6, tyX0, rfl, in_X0, by decide, tyX0_ok, nmX0, by decide +kernel, by decide +kernel⟩
theorem fp_X1_0 : FP 1 0 (.array (.object "WriteOnceDisc$Session")) true := ⟨RX1, TX1, 7, tyX1, rfl, in_X1, by decide, tyX1_ok, nmX1, by decide +kernel, by decide +kernel⟩
theorem fp_X1_1 : FP 1 1 (.array .boolean) true := ⟨RX1, TX1, 7, tyX1, rfl, in_X1, by decide, tyX1_ok, nmX1, by decide +kernel, by decide +kernel⟩
theorem fp_X1_2 : FP 1 2 (.array .int) true := ⟨RX1, TX1, 7, tyX1, rfl, in_X1, by decide, tyX1_ok, nmX1, by decide +kernel, by decide +kernel⟩
theorem fp_X1_3 : FP 1 3 (.array .int) true := ⟨RX1, TX1, 7, tyX1, rfl, in_X1, by decide, tyX1_ok, nmX1, by decide +kernel, by decide +kernel⟩
theorem fp_X1_4 : FP 1 4 .int false := ⟨RX1, TX1, 7, tyX1, rfl, in_X1, by decide, tyX1_ok, nmX1, by decide +kernel, by decide +kernel⟩
theorem fp_X1_5 : FP 1 5 .int false := ⟨RX1, TX1, 7, tyX1, rfl, in_X1, by decide, tyX1_ok, nmX1, by decide +kernel, by decide +kernel⟩
theorem fp_X1_6 : FP 1 6 .int false := ⟨RX1, TX1, 7, tyX1, rfl, in_X1, by decide, tyX1_ok, nmX1, by decide +kernel, by decide +kernel⟩
theorem fp_X2_0 : FP 2 0 (.array (.object "WriteOnceDisc$Disc")) true := ⟨RX2, TX2, 3, tyX2, rfl, in_X2, by decide, tyX2_ok, nmX2, by decide +kernel, by decide +kernel⟩
theorem fp_X2_1 : FP 2 1 .int false := ⟨RX2, TX2, 3, tyX2, rfl, in_X2, by decide, tyX2_ok, nmX2, by decide +kernel, by decide +kernel⟩
theorem fp_X2_2 : FP 2 2 .int false := ⟨RX2, TX2, 3, tyX2, rfl, in_X2, by decide, tyX2_ok, nmX2, by decide +kernel, by decide +kernel⟩
theorem fp_X3_0 : FP 3 0 (.array (.object "WriteOnceDisc$StoredFile")) true := ⟨RX3, TX3, 7, tyX3, rfl, in_X3, by decide, tyX3_ok, nmX3, by decide +kernel, by decide +kernel⟩
theorem fp_X3_1 : FP 3 1 .int false := ⟨RX3, TX3, 7, tyX3, rfl, in_X3, by decide, tyX3_ok, nmX3, by decide +kernel, by decide +kernel⟩
theorem fp_X3_2 : FP 3 2 .int false := ⟨RX3, TX3, 7, tyX3, rfl, in_X3, by decide, tyX3_ok, nmX3, by decide +kernel, by decide +kernel⟩
theorem fp_X3_3 : FP 3 3 .int false := ⟨RX3, TX3, 7, tyX3, rfl, in_X3, by decide, tyX3_ok, nmX3, by decide +kernel, by decide +kernel⟩
theorem fp_X3_4 : FP 3 4 .int false := ⟨RX3, TX3, 7, tyX3, rfl, in_X3, by decide, tyX3_ok, nmX3, by decide +kernel, by decide +kernel⟩
theorem fp_X3_5 : FP 3 5 .int false := ⟨RX3, TX3, 7, tyX3, rfl, in_X3, by decide, tyX3_ok, nmX3, by decide +kernel, by decide +kernel⟩
theorem fp_X3_6 : FP 3 6 .int false := ⟨RX3, TX3, 7, tyX3, rfl, in_X3, by decide, tyX3_ok, nmX3, by decide +kernel, by decide +kernel⟩
theorem fp_X4_0 : FP 4 0 .int true := ⟨RX4, TX4, 3, tyX4, rfl, in_X4, by decide, tyX4_ok, nmX4, by decide +kernel, by decide +kernel⟩
theorem fp_X4_1 : FP 4 1 .int true := ⟨RX4, TX4, 3, tyX4, rfl, in_X4, by decide, tyX4_ok, nmX4, by decide +kernel, by decide +kernel⟩
theorem fp_X4_2 : FP 4 2 .int true := ⟨RX4, TX4, 3, tyX4, rfl, in_X4, by decide, tyX4_ok, nmX4, by decide +kernel, by decide +kernel⟩
theorem fp_X5_0 : FP 5 0 (.object "WriteOnceDisc$Disc") true := ⟨RX5, TX5, 3, tyX5, rfl, in_X5, by decide, tyX5_ok, nmX5, by decide +kernel, by decide +kernel⟩
theorem fp_X5_1 : FP 5 1 (.object "WriteOnceDisc$History") true := ⟨RX5, TX5, 3, tyX5, rfl, in_X5, by decide, tyX5_ok, nmX5, by decide +kernel, by decide +kernel⟩
theorem fp_X5_2 : FP 5 2 (.object "WriteOnceDisc$CommandText") true := ⟨RX5, TX5, 3, tyX5, rfl, in_X5, by decide, tyX5_ok, nmX5, by decide +kernel, by decide +kernel⟩
theorem fp_X6_0 : FP 6 0 (.array .int) true := ⟨RX6, TX6, 11, tyX6, rfl, in_X6, by decide, tyX6_ok, nmX6, by decide +kernel, by decide +kernel⟩
theorem fp_X6_1 : FP 6 1 (.array .int) true := ⟨RX6, TX6, 11, tyX6, rfl, in_X6, by decide, tyX6_ok, nmX6, by decide +kernel, by decide +kernel⟩
theorem fp_X6_2 : FP 6 2 (.array .int) true := ⟨RX6, TX6, 11, tyX6, rfl, in_X6, by decide, tyX6_ok, nmX6, by decide +kernel, by decide +kernel⟩
theorem fp_X6_3 : FP 6 3 .int false := ⟨RX6, TX6, 11, tyX6, rfl, in_X6, by decide, tyX6_ok, nmX6, by decide +kernel, by decide +kernel⟩
theorem fp_X6_4 : FP 6 4 (.array .int) true := ⟨RX6, TX6, 11, tyX6, rfl, in_X6, by decide, tyX6_ok, nmX6, by decide +kernel, by decide +kernel⟩
theorem fp_X6_5 : FP 6 5 .int false := ⟨RX6, TX6, 11, tyX6, rfl, in_X6, by decide, tyX6_ok, nmX6, by decide +kernel, by decide +kernel⟩
theorem fp_X6_6 : FP 6 6 .int false := ⟨RX6, TX6, 11, tyX6, rfl, in_X6, by decide, tyX6_ok, nmX6, by decide +kernel, by decide +kernel⟩
theorem fp_X6_7 : FP 6 7 .boolean false := ⟨RX6, TX6, 11, tyX6, rfl, in_X6, by decide, tyX6_ok, nmX6, by decide +kernel, by decide +kernel⟩
theorem fp_X6_8 : FP 6 8 .int false := ⟨RX6, TX6, 11, tyX6, rfl, in_X6, by decide, tyX6_ok, nmX6, by decide +kernel, by decide +kernel⟩
theorem fp_X6_9 : FP 6 9 .int false := ⟨RX6, TX6, 11, tyX6, rfl, in_X6, by decide, tyX6_ok, nmX6, by decide +kernel, by decide +kernel⟩
theorem fp_X6_10 : FP 6 10 .int false := ⟨RX6, TX6, 11, tyX6, rfl, in_X6, by decide, tyX6_ok, nmX6, by decide +kernel, by decide +kernel⟩
theorem fw_X3_11 : FW RX3 11 3 0 := ⟨RX3, TX3, 7, rfl, in_X3, by decide, lw_mem 80 (by decide +kernel) rfl, by decide +kernel⟩
theorem fw_X3_17 : FW RX3 17 3 1 := ⟨RX3, TX3, 7, rfl, in_X3, by decide, lw_mem 81 (by decide +kernel) rfl, by decide +kernel⟩
theorem fw_X1_105 : FW RX1 105 3 1 := ⟨RX3, TX3, 7, rfl, in_X3, by decide, lw_mem 82 (by decide +kernel) rfl, by decide +kernel⟩
theorem fw_X5_109 : FW RX5 109 3 1 := ⟨RX3, TX3, 7, rfl, in_X3, by decide, lw_mem 83 (by decide +kernel) rfl, by decide +kernel⟩
theorem fw_X3_21 : FW RX3 21 3 2 := ⟨RX3, TX3, 7, rfl, in_X3, by decide, lw_mem 84 (by decide +kernel) rfl, by decide +kernel⟩
theorem fw_X1_108 : FW RX1 108 3 2 := ⟨RX3, TX3, 7, rfl, in_X3, by decide, lw_mem 85 (by decide +kernel) rfl, by decide +kernel⟩
theorem fw_X5_114 : FW RX5 114 3 2 := ⟨RX3, TX3, 7, rfl, in_X3, by decide, lw_mem 86 (by decide +kernel) rfl, by decide +kernel⟩
theorem fw_X3_24 : FW RX3 24 3 3 := ⟨RX3, TX3, 7, rfl, in_X3, by decide, lw_mem 87 (by decide +kernel) rfl, by decide +kernel⟩
theorem fw_X1_62 : FW RX1 62 3 3 := ⟨RX3, TX3, 7, rfl, in_X3, by decide, lw_mem 88 (by decide +kernel) rfl, by decide +kernel⟩
theorem fw_X5_117 : FW RX5 117 3 3 := ⟨RX3, TX3, 7, rfl, in_X3, by decide, lw_mem 89 (by decide +kernel) rfl, by decide +kernel⟩
theorem fw_X3_27 : FW RX3 27 3 4 := ⟨RX3, TX3, 7, rfl, in_X3, by decide, lw_mem 90 (by decide +kernel) rfl, by decide +kernel⟩
theorem fw_X1_109 : FW RX1 109 3 4 := ⟨RX3, TX3, 7, rfl, in_X3, by decide, lw_mem 91 (by decide +kernel) rfl, by decide +kernel⟩
theorem fw_X5_120 : FW RX5 120 3 4 := ⟨RX3, TX3, 7, rfl, in_X3, by decide, lw_mem 92 (by decide +kernel) rfl, by decide +kernel⟩
theorem fw_X3_30 : FW RX3 30 3 5 := ⟨RX3, TX3, 7, rfl, in_X3, by decide, lw_mem 93 (by decide +kernel) rfl, by decide +kernel⟩
theorem fw_X1_122 : FW RX1 122 3 5 := ⟨RX3, TX3, 7, rfl, in_X3, by decide, lw_mem 94 (by decide +kernel) rfl, by decide +kernel⟩
theorem fw_X5_123 : FW RX5 123 3 5 := ⟨RX3, TX3, 7, rfl, in_X3, by decide, lw_mem 95 (by decide +kernel) rfl, by decide +kernel⟩
theorem fw_X3_33 : FW RX3 33 3 6 := ⟨RX3, TX3, 7, rfl, in_X3, by decide, lw_mem 96 (by decide +kernel) rfl, by decide +kernel⟩
theorem fw_X1_84 : FW RX1 84 3 6 := ⟨RX3, TX3, 7, rfl, in_X3, by decide, lw_mem 97 (by decide +kernel) rfl, by decide +kernel⟩
theorem fw_X5_133 : FW RX5 133 3 6 := ⟨RX3, TX3, 7, rfl, in_X3, by decide, lw_mem 98 (by decide +kernel) rfl, by decide +kernel⟩
theorem fw_X1_11 : FW RX1 11 1 0 := ⟨RX1, TX1, 7, rfl, in_X1, by decide, lw_mem 116 (by decide +kernel) rfl, by decide +kernel⟩
theorem fw_X1_17 : FW RX1 17 1 1 := ⟨RX1, TX1, 7, rfl, in_X1, by decide, lw_mem 117 (by decide +kernel) rfl, by decide +kernel⟩
theorem fw_X5_161 : FW RX5 161 1 1 := ⟨RX1, TX1, 7, rfl, in_X1, by decide, lw_mem 118 (by decide +kernel) rfl, by decide +kernel⟩
theorem fw_X1_21 : FW RX1 21 1 2 := ⟨RX1, TX1, 7, rfl, in_X1, by decide, lw_mem 119 (by decide +kernel) rfl, by decide +kernel⟩
theorem fw_X5_185 : FW RX5 185 1 2 := ⟨RX1, TX1, 7, rfl, in_X1, by decide, lw_mem 120 (by decide +kernel) rfl, by decide +kernel⟩
theorem fw_X1_25 : FW RX1 25 1 3 := ⟨RX1, TX1, 7, rfl, in_X1, by decide, lw_mem 121 (by decide +kernel) rfl, by decide +kernel⟩
theorem fw_X5_171 : FW RX5 171 1 3 := ⟨RX1, TX1, 7, rfl, in_X1, by decide, lw_mem 122 (by decide +kernel) rfl, by decide +kernel⟩
theorem fw_X1_29 : FW RX1 29 1 4 := ⟨RX1, TX1, 7, rfl, in_X1, by decide, lw_mem 123 (by decide +kernel) rfl, by decide +kernel⟩
theorem fw_X5_102 : FW RX5 102 1 4 := ⟨RX1, TX1, 7, rfl, in_X1, by decide, lw_mem 124 (by decide +kernel) rfl, by decide +kernel⟩
theorem fw_X1_33 : FW RX1 33 1 5 := ⟨RX1, TX1, 7, rfl, in_X1, by decide, lw_mem 125 (by decide +kernel) rfl, by decide +kernel⟩
theorem fw_X5_155 : FW RX5 155 1 5 := ⟨RX1, TX1, 7, rfl, in_X1, by decide, lw_mem 126 (by decide +kernel) rfl, by decide +kernel⟩
theorem fw_X1_36 : FW RX1 36 1 6 := ⟨RX1, TX1, 7, rfl, in_X1, by decide, lw_mem 127 (by decide +kernel) rfl, by decide +kernel⟩
theorem fw_X2_11 : FW RX2 11 2 0 := ⟨RX2, TX2, 3, rfl, in_X2, by decide, lw_mem 152 (by decide +kernel) rfl, by decide +kernel⟩
theorem fw_X2_18 : FW RX2 18 2 1 := ⟨RX2, TX2, 3, rfl, in_X2, by decide, lw_mem 153 (by decide +kernel) rfl, by decide +kernel⟩
theorem fw_X2_22 : FW RX2 22 2 2 := ⟨RX2, TX2, 3, rfl, in_X2, by decide, lw_mem 154 (by decide +kernel) rfl, by decide +kernel⟩
theorem fw_X5_99 : FW RX5 99 2 2 := ⟨RX2, TX2, 3, rfl, in_X2, by decide, lw_mem 155 (by decide +kernel) rfl, by decide +kernel⟩
theorem fw_X0_9 : FW RX0 9 0 0 := ⟨RX0, TX0, 6, rfl, in_X0, by decide, lw_mem 169 (by decide +kernel) rfl, by decide +kernel⟩
theorem fw_X0_15 : FW RX0 15 0 1 := ⟨RX0, TX0, 6, rfl, in_X0, by decide, lw_mem 170 (by decide +kernel) rfl, by decide +kernel⟩
theorem fw_X5_71 : FW RX5 71 0 1 := ⟨RX0, TX0, 6, rfl, in_X0, by decide, lw_mem 171 (by decide +kernel) rfl, by decide +kernel⟩
theorem fw_X0_19 : FW RX0 19 0 2 := ⟨RX0, TX0, 6, rfl, in_X0, by decide, lw_mem 172 (by decide +kernel) rfl, by decide +kernel⟩
theorem fw_X5_78 : FW RX5 78 0 2 := ⟨RX0, TX0, 6, rfl, in_X0, by decide, lw_mem 173 (by decide +kernel) rfl, by decide +kernel⟩
theorem fw_X0_34 : FW RX0 34 0 3 := ⟨RX0, TX0, 6, rfl, in_X0, by decide, lw_mem 174 (by decide +kernel) rfl, by decide +kernel⟩
theorem fw_X5_214 : FW RX5 214 0 3 := ⟨RX0, TX0, 6, rfl, in_X0, by decide, lw_mem 175 (by decide +kernel) rfl, by decide +kernel⟩
theorem fw_X0_49 : FW RX0 49 0 4 := ⟨RX0, TX0, 6, rfl, in_X0, by decide, lw_mem 176 (by decide +kernel) rfl, by decide +kernel⟩
theorem fw_X5_217 : FW RX5 217 0 4 := ⟨RX0, TX0, 6, rfl, in_X0, by decide, lw_mem 177 (by decide +kernel) rfl, by decide +kernel⟩
theorem fw_X0_52 : FW RX0 52 0 5 := ⟨RX0, TX0, 6, rfl, in_X0, by decide, lw_mem 178 (by decide +kernel) rfl, by decide +kernel⟩
theorem fw_X5_220 : FW RX5 220 0 5 := ⟨RX0, TX0, 6, rfl, in_X0, by decide, lw_mem 179 (by decide +kernel) rfl, by decide +kernel⟩
theorem fw_X5_12 : FW RX5 12 5 0 := ⟨RX5, TX5, 3, rfl, in_X5, by decide, lw_mem 194 (by decide +kernel) rfl, by decide +kernel⟩
theorem fw_X5_19 : FW RX5 19 5 1 := ⟨RX5, TX5, 3, rfl, in_X5, by decide, lw_mem 195 (by decide +kernel) rfl, by decide +kernel⟩
theorem fw_X5_26 : FW RX5 26 5 2 := ⟨RX5, TX5, 3, rfl, in_X5, by decide, lw_mem 196 (by decide +kernel) rfl, by decide +kernel⟩
theorem fw_X4_7 : FW RX4 7 4 0 := ⟨RX4, TX4, 3, rfl, in_X4, by decide, lw_mem 298 (by decide +kernel) rfl, by decide +kernel⟩
theorem fw_X1_87 : FW RX1 87 4 0 := ⟨RX4, TX4, 3, rfl, in_X4, by decide, lw_mem 299 (by decide +kernel) rfl, by decide +kernel⟩
theorem fw_X5_143 : FW RX5 143 4 0 := ⟨RX4, TX4, 3, rfl, in_X4, by decide, lw_mem 300 (by decide +kernel) rfl, by decide +kernel⟩
theorem fw_X4_13 : FW RX4 13 4 1 := ⟨RX4, TX4, 3, rfl, in_X4, by decide, lw_mem 301 (by decide +kernel) rfl, by decide +kernel⟩
theorem fw_X5_146 : FW RX5 146 4 1 := ⟨RX4, TX4, 3, rfl, in_X4, by decide, lw_mem 302 (by decide +kernel) rfl, by decide +kernel⟩
theorem fw_X1_140 : FW RX1 140 4 1 := ⟨RX4, TX4, 3, rfl, in_X4, by decide, lw_mem 303 (by decide +kernel) rfl, by decide +kernel⟩
theorem fw_X4_16 : FW RX4 16 4 2 := ⟨RX4, TX4, 3, rfl, in_X4, by decide, lw_mem 304 (by decide +kernel) rfl, by decide +kernel⟩
theorem fw_X5_149 : FW RX5 149 4 2 := ⟨RX4, TX4, 3, rfl, in_X4, by decide, lw_mem 305 (by decide +kernel) rfl, by decide +kernel⟩
theorem fw_X6_7 : FW RX6 7 6 0 := ⟨RX6, TX6, 11, rfl, in_X6, by decide, lw_mem 601 (by decide +kernel) rfl, by decide +kernel⟩
theorem fw_X6_13 : FW RX6 13 6 1 := ⟨RX6, TX6, 11, rfl, in_X6, by decide, lw_mem 602 (by decide +kernel) rfl, by decide +kernel⟩
theorem fw_X6_16 : FW RX6 16 6 2 := ⟨RX6, TX6, 11, rfl, in_X6, by decide, lw_mem 603 (by decide +kernel) rfl, by decide +kernel⟩
theorem fw_X6_26 : FW RX6 26 6 3 := ⟨RX6, TX6, 11, rfl, in_X6, by decide, lw_mem 604 (by decide +kernel) rfl, by decide +kernel⟩
theorem fw_X6_19 : FW RX6 19 6 4 := ⟨RX6, TX6, 11, rfl, in_X6, by decide, lw_mem 605 (by decide +kernel) rfl, by decide +kernel⟩
theorem fw_X6_125 : FW RX6 125 6 5 := ⟨RX6, TX6, 11, rfl, in_X6, by decide, lw_mem 606 (by decide +kernel) rfl, by decide +kernel⟩
theorem fw_X6_128 : FW RX6 128 6 6 := ⟨RX6, TX6, 11, rfl, in_X6, by decide, lw_mem 607 (by decide +kernel) rfl, by decide +kernel⟩
theorem fw_X6_131 : FW RX6 131 6 7 := ⟨RX6, TX6, 11, rfl, in_X6, by decide, lw_mem 608 (by decide +kernel) rfl, by decide +kernel⟩
theorem fw_X6_142 : FW RX6 142 6 8 := ⟨RX6, TX6, 11, rfl, in_X6, by decide, lw_mem 609 (by decide +kernel) rfl, by decide +kernel⟩
theorem fw_X6_148 : FW RX6 148 6 9 := ⟨RX6, TX6, 11, rfl, in_X6, by decide, lw_mem 610 (by decide +kernel) rfl, by decide +kernel⟩
theorem fw_X6_151 : FW RX6 151 6 10 := ⟨RX6, TX6, 11, rfl, in_X6, by decide, lw_mem 611 (by decide +kernel) rfl, by decide +kernel⟩
theorem cb_X5_init : CB yX5_init cX5_init 1 none 0 := ⟨lw_mem 61 (by decide +kernel) rfl, lw_mem 49 (by decide +kernel) rfl, ⟨by decide +kernel, by decide +kernel⟩, by decide +kernel⟩
theorem cw_L_9 : CWI RL 9 yX5_init cX5_init 1 0 := ⟨cb_X5_init, lw_mem 59 (by decide +kernel) rfl, lw_mem 60 (by decide +kernel) rfl, by decide +kernel⟩
theorem oi_X5 : Cond.methodLink RX5 3 objectInit ∈ lw_all := lw_mem 62 (by decide +kernel) rfl
theorem cb_X1_init : CB yX1_init cX1_init 2 none 0 := ⟨lw_mem 69 (by decide +kernel) rfl, lw_mem 50 (by decide +kernel) rfl, ⟨by decide +kernel, by decide +kernel⟩, by decide +kernel⟩
theorem cw_X5_11 : CWI RX5 11 yX1_init cX1_init 2 0 := ⟨cb_X1_init, lw_mem 67 (by decide +kernel) rfl, lw_mem 68 (by decide +kernel) rfl, by decide +kernel⟩
theorem oi_X1 : Cond.methodLink RX1 3 objectInit ∈ lw_all := lw_mem 70 (by decide +kernel) rfl
theorem cb_X3_init : CB yX3_init cX3_init 1 none 0 := ⟨lw_mem 76 (by decide +kernel) rfl, lw_mem 51 (by decide +kernel) rfl, ⟨by decide +kernel, by decide +kernel⟩, by decide +kernel⟩
theorem cw_X1_28 : CWIN nestW RX1 28 yX3_init cX3_init 1 0 := ⟨cb_X3_init, by decide +kernel, lw_mem 75 (by decide +kernel) rfl, by decide +kernel⟩
theorem oi_X3 : Cond.methodLink RX3 3 objectInit ∈ lw_all := lw_mem 77 (by decide +kernel) rfl
theorem cb_X2_init : CB yX2_init cX2_init 2 none 0 := ⟨lw_mem 147 (by decide +kernel) rfl, lw_mem 52 (by decide +kernel) rfl, ⟨by decide +kernel, by decide +kernel⟩, by decide +kernel⟩
theorem cw_X5_18 : CWI RX5 18 yX2_init cX2_init 2 0 := ⟨cb_X2_init, lw_mem 145 (by decide +kernel) rfl, lw_mem 146 (by decide +kernel) rfl, by decide +kernel⟩
theorem oi_X2 : Cond.methodLink RX2 3 objectInit ∈ lw_all := lw_mem 148 (by decide +kernel) rfl
theorem cw_X2_17 : CWI RX2 17 yX1_init cX1_init 2 0 := ⟨cb_X1_init, lw_mem 151 (by decide +kernel) rfl, lw_mem 68 (by decide +kernel) rfl, by decide +kernel⟩
theorem cb_X0_init : CB yX0_init cX0_init 1 none 0 := ⟨lw_mem 167 (by decide +kernel) rfl, lw_mem 53 (by decide +kernel) rfl, ⟨by decide +kernel, by decide +kernel⟩, by decide +kernel⟩
theorem cw_X5_25 : CWIN nestW RX5 25 yX0_init cX0_init 1 0 := ⟨cb_X0_init, by decide +kernel, lw_mem 166 (by decide +kernel) rfl, by decide +kernel⟩
theorem oi_X0 : Cond.methodLink RX0 3 objectInit ∈ lw_all := lw_mem 168 (by decide +kernel) rfl
theorem cb_X5_begin : CB yX5_begin cX5_begin 2 (some .int) 1 := ⟨lw_mem 207 (by decide +kernel) rfl, lw_mem 49 (by decide +kernel) rfl, ⟨by decide +kernel, by decide +kernel⟩, by decide +kernel⟩
theorem cw_L_13 : CWV RL 13 yX5_begin cX5_begin 2 (some .int) 1 := ⟨cb_X5_begin, lw_mem 204 (by decide +kernel) rfl, lw_mem 205 (by decide +kernel) rfl, lw_mem 206 (by decide +kernel) rfl⟩
theorem cb_X2_sketch : CB yX2_sketch cX2_sketch 2 none 1 := ⟨lw_mem 211 (by decide +kernel) rfl, lw_mem 52 (by decide +kernel) rfl, ⟨by decide +kernel, by decide +kernel⟩, by decide +kernel⟩
theorem cw_X5_30 : CWV RX5 30 yX2_sketch cX2_sketch 2 none 1 := ⟨cb_X2_sketch, lw_mem 208 (by decide +kernel) rfl, lw_mem 209 (by decide +kernel) rfl, lw_mem 210 (by decide +kernel) rfl⟩
theorem cb_X2_slotBehindHeld : CB yX2_slotBehindHeld cX2_slotBehindHeld 1 (some (.object "WriteOnceDisc$Disc")) 0 := ⟨lw_mem 215 (by decide +kernel) rfl, lw_mem 52 (by decide +kernel) rfl, ⟨by decide +kernel, by decide +kernel⟩, by decide +kernel⟩
theorem cw_X2_25 : CWV RX2 25 yX2_slotBehindHeld cX2_slotBehindHeld 1 (some (.object "WriteOnceDisc$Disc")) 0 := ⟨cb_X2_slotBehindHeld, lw_mem 212 (by decide +kernel) rfl, lw_mem 214 (by decide +kernel) rfl, lw_mem 0 (by decide +kernel) rfl⟩
theorem cb_X1_copyAll : CB yX1_copyAll cX1_copyAll 3 none 1 := ⟨lw_mem 219 (by decide +kernel) rfl, lw_mem 50 (by decide +kernel) rfl, ⟨by decide +kernel, by decide +kernel⟩, by decide +kernel⟩
theorem cw_X2_29 : CWV RX2 29 yX1_copyAll cX1_copyAll 3 none 1 := ⟨cb_X1_copyAll, lw_mem 216 (by decide +kernel) rfl, lw_mem 217 (by decide +kernel) rfl, lw_mem 218 (by decide +kernel) rfl⟩
theorem cb_X3_copyAll : CB yX3_copyAll cX3_copyAll 2 none 1 := ⟨lw_mem 223 (by decide +kernel) rfl, lw_mem 51 (by decide +kernel) rfl, ⟨by decide +kernel, by decide +kernel⟩, by decide +kernel⟩
theorem cw_X1_39 : CWV RX1 39 yX3_copyAll cX3_copyAll 2 none 1 := ⟨cb_X3_copyAll, lw_mem 220 (by decide +kernel) rfl, lw_mem 221 (by decide +kernel) rfl, lw_mem 222 (by decide +kernel) rfl⟩
theorem cb_X3_copyTable : CB yX3_copyTable cX3_copyTable 3 none 1 := ⟨lw_mem 227 (by decide +kernel) rfl, lw_mem 51 (by decide +kernel) rfl, ⟨by decide +kernel, by decide +kernel⟩, by decide +kernel⟩
theorem cw_X3_36 : CWV RX3 36 yX3_copyTable cX3_copyTable 3 none 1 := ⟨cb_X3_copyTable, lw_mem 224 (by decide +kernel) rfl, lw_mem 225 (by decide +kernel) rfl, lw_mem 226 (by decide +kernel) rfl⟩
theorem cb_X1_beginSession : CB yX1_beginSession cX1_beginSession 5 (some .int) 1 := ⟨lw_mem 231 (by decide +kernel) rfl, lw_mem 50 (by decide +kernel) rfl, ⟨by decide +kernel, by decide +kernel⟩, by decide +kernel⟩
theorem cw_X5_34 : CWV RX5 34 yX1_beginSession cX1_beginSession 5 (some .int) 1 := ⟨cb_X1_beginSession, lw_mem 228 (by decide +kernel) rfl, lw_mem 229 (by decide +kernel) rfl, lw_mem 230 (by decide +kernel) rfl⟩
theorem cb_X1_openSession : CB yX1_openSession cX1_openSession 2 (some (.object "WriteOnceDisc$Session")) 0 := ⟨lw_mem 235 (by decide +kernel) rfl, lw_mem 50 (by decide +kernel) rfl, ⟨by decide +kernel, by decide +kernel⟩, by decide +kernel⟩
theorem cw_X1_43 : CWV RX1 43 yX1_openSession cX1_openSession 2 (some (.object "WriteOnceDisc$Session")) 0 := ⟨cb_X1_openSession, lw_mem 232 (by decide +kernel) rfl, lw_mem 233 (by decide +kernel) rfl, lw_mem 234 (by decide +kernel) rfl⟩
theorem cb_X1_sessionAt : CB yX1_sessionAt cX1_sessionAt 2 (some (.object "WriteOnceDisc$Session")) 1 := ⟨lw_mem 239 (by decide +kernel) rfl, lw_mem 50 (by decide +kernel) rfl, ⟨by decide +kernel, by decide +kernel⟩, by decide +kernel⟩
theorem cw_X1_51 : CWV RX1 51 yX1_sessionAt cX1_sessionAt 2 (some (.object "WriteOnceDisc$Session")) 1 := ⟨cb_X1_sessionAt, lw_mem 236 (by decide +kernel) rfl, lw_mem 237 (by decide +kernel) rfl, lw_mem 238 (by decide +kernel) rfl⟩
theorem cb_X1_validNumberIf : CB yX1_validNumberIf cX1_validNumberIf 4 (some .int) 1 := ⟨lw_mem 243 (by decide +kernel) rfl, lw_mem 50 (by decide +kernel) rfl, ⟨by decide +kernel, by decide +kernel⟩, by decide +kernel⟩
theorem cw_X1_47 : CWV RX1 47 yX1_validNumberIf cX1_validNumberIf 4 (some .int) 1 := ⟨cb_X1_validNumberIf, lw_mem 240 (by decide +kernel) rfl, lw_mem 241 (by decide +kernel) rfl, lw_mem 242 (by decide +kernel) rfl⟩
theorem cb_X1_isReadableIf : CB yX1_isReadableIf cX1_isReadableIf 3 (some .boolean) 2 := ⟨lw_mem 247 (by decide +kernel) rfl, lw_mem 50 (by decide +kernel) rfl, ⟨by decide +kernel, by decide +kernel⟩, by decide +kernel⟩
theorem cw_X1_97 : CWV RX1 97 yX1_isReadableIf cX1_isReadableIf 3 (some .boolean) 2 := ⟨cb_X1_isReadableIf, lw_mem 244 (by decide +kernel) rfl, lw_mem 245 (by decide +kernel) rfl, lw_mem 246 (by decide +kernel) rfl⟩
theorem cb_X1_areWholeIf : CB yX1_areWholeIf cX1_areWholeIf 6 (some .boolean) 3 := ⟨lw_mem 251 (by decide +kernel) rfl, lw_mem 50 (by decide +kernel) rfl, ⟨by decide +kernel, by decide +kernel⟩, by decide +kernel⟩
theorem cw_X1_112 : CWV RX1 112 yX1_areWholeIf cX1_areWholeIf 6 (some .boolean) 3 := ⟨cb_X1_areWholeIf, lw_mem 248 (by decide +kernel) rfl, lw_mem 250 (by decide +kernel) rfl, lw_mem 1 (by decide +kernel) rfl⟩
theorem cb_J9_min_7cf53 : CB yJ9_min_7cf53 cJ9_min_7cf53 2 (some .int) 2 := ⟨lw_mem 254 (by decide +kernel) rfl, lw_mem 55 (by decide +kernel) rfl, ⟨by decide +kernel, by decide +kernel⟩, by decide +kernel⟩
theorem cw_X1_125 : CWS RX1 125 yJ9_min_7cf53 cJ9_min_7cf53 2 (some .int) 2 := ⟨cb_J9_min_7cf53, lw_mem 252 (by decide +kernel) rfl, lw_mem 253 (by decide +kernel) rfl⟩
theorem cb_J9_max_7cf53 : CB yJ9_max_7cf53 cJ9_max_7cf53 2 (some .int) 2 := ⟨lw_mem 257 (by decide +kernel) rfl, lw_mem 55 (by decide +kernel) rfl, ⟨by decide +kernel, by decide +kernel⟩, by decide +kernel⟩
theorem cw_X1_131 : CWS RX1 131 yJ9_max_7cf53 cJ9_max_7cf53 2 (some .int) 2 := ⟨cb_J9_max_7cf53, lw_mem 255 (by decide +kernel) rfl, lw_mem 256 (by decide +kernel) rfl⟩
theorem cb_X3_startAt : CB yX3_startAt cX3_startAt 5 none 3 := ⟨lw_mem 261 (by decide +kernel) rfl, lw_mem 51 (by decide +kernel) rfl, ⟨by decide +kernel, by decide +kernel⟩, by decide +kernel⟩
theorem cw_X1_55 : CWV RX1 55 yX3_startAt cX3_startAt 5 none 3 := ⟨cb_X3_startAt, lw_mem 258 (by decide +kernel) rfl, lw_mem 259 (by decide +kernel) rfl, lw_mem 260 (by decide +kernel) rfl⟩
theorem cw_X1_59 : CWV RX1 59 yX3_copyTable cX3_copyTable 3 none 1 := ⟨cb_X3_copyTable, lw_mem 262 (by decide +kernel) rfl, lw_mem 225 (by decide +kernel) rfl, lw_mem 226 (by decide +kernel) rfl⟩
theorem cb_X5_recorded : CB yX5_recorded cX5_recorded 2 (some .int) 1 := ⟨lw_mem 266 (by decide +kernel) rfl, lw_mem 49 (by decide +kernel) rfl, ⟨by decide +kernel, by decide +kernel⟩, by decide +kernel⟩
theorem cw_X5_38 : CWV RX5 38 yX5_recorded cX5_recorded 2 (some .int) 1 := ⟨cb_X5_recorded, lw_mem 263 (by decide +kernel) rfl, lw_mem 265 (by decide +kernel) rfl, lw_mem 2 (by decide +kernel) rfl⟩
theorem cb_X5_isError : CB yX5_isError cX5_isError 1 (some .boolean) 1 := ⟨lw_mem 269 (by decide +kernel) rfl, lw_mem 49 (by decide +kernel) rfl, ⟨by decide +kernel, by decide +kernel⟩, by decide +kernel⟩
theorem cw_X5_88 : CWS RX5 88 yX5_isError cX5_isError 1 (some .boolean) 1 := ⟨cb_X5_isError, lw_mem 267 (by decide +kernel) rfl, lw_mem 268 (by decide +kernel) rfl⟩
theorem cb_X2_recordSketch : CB yX2_recordSketch cX2_recordSketch 1 none 0 := ⟨lw_mem 273 (by decide +kernel) rfl, lw_mem 52 (by decide +kernel) rfl, ⟨by decide +kernel, by decide +kernel⟩, by decide +kernel⟩
theorem cw_X5_211 : CWV RX5 211 yX2_recordSketch cX2_recordSketch 1 none 0 := ⟨cb_X2_recordSketch, lw_mem 270 (by decide +kernel) rfl, lw_mem 271 (by decide +kernel) rfl, lw_mem 272 (by decide +kernel) rfl⟩
theorem cb_X5_write : CB yX5_write cX5_write 3 (some .int) 2 := ⟨lw_mem 277 (by decide +kernel) rfl, lw_mem 49 (by decide +kernel) rfl, ⟨by decide +kernel, by decide +kernel⟩, by decide +kernel⟩
theorem cw_L_18 : CWV RL 18 yX5_write cX5_write 3 (some .int) 2 := ⟨cb_X5_write, lw_mem 274 (by decide +kernel) rfl, lw_mem 275 (by decide +kernel) rfl, lw_mem 276 (by decide +kernel) rfl⟩
theorem cb_X1_writeFile : CB yX1_writeFile cX1_writeFile 5 (some .int) 2 := ⟨lw_mem 281 (by decide +kernel) rfl, lw_mem 50 (by decide +kernel) rfl, ⟨by decide +kernel, by decide +kernel⟩, by decide +kernel⟩
theorem cw_X5_41 : CWV RX5 41 yX1_writeFile cX1_writeFile 5 (some .int) 2 := ⟨cb_X1_writeFile, lw_mem 278 (by decide +kernel) rfl, lw_mem 279 (by decide +kernel) rfl, lw_mem 280 (by decide +kernel) rfl⟩
theorem cb_X5_isName : CB yX5_isName cX5_isName 1 (some .boolean) 1 := ⟨lw_mem 284 (by decide +kernel) rfl, lw_mem 49 (by decide +kernel) rfl, ⟨by decide +kernel, by decide +kernel⟩, by decide +kernel⟩
theorem cw_X1_65 : CWSN nestW RX1 65 yX5_isName cX5_isName 1 (some .boolean) 1 := ⟨cb_X5_isName, by decide +kernel, lw_mem 283 (by decide +kernel) rfl⟩
theorem cb_X5_isFileSize : CB yX5_isFileSize cX5_isFileSize 1 (some .boolean) 1 := ⟨lw_mem 287 (by decide +kernel) rfl, lw_mem 49 (by decide +kernel) rfl, ⟨by decide +kernel, by decide +kernel⟩, by decide +kernel⟩
theorem cw_X1_69 : CWSN nestW RX1 69 yX5_isFileSize cX5_isFileSize 1 (some .boolean) 1 := ⟨cb_X5_isFileSize, by decide +kernel, lw_mem 286 (by decide +kernel) rfl⟩
theorem cb_X1_roomForFiles : CB yX1_roomForFiles cX1_roomForFiles 2 (some .int) 0 := ⟨lw_mem 291 (by decide +kernel) rfl, lw_mem 50 (by decide +kernel) rfl, ⟨by decide +kernel, by decide +kernel⟩, by decide +kernel⟩
theorem cw_X1_72 : CWV RX1 72 yX1_roomForFiles cX1_roomForFiles 2 (some .int) 0 := ⟨cb_X1_roomForFiles, lw_mem 288 (by decide +kernel) rfl, lw_mem 289 (by decide +kernel) rfl, lw_mem 290 (by decide +kernel) rfl⟩
theorem cb_X4_init : CB yX4_init cX4_init 4 none 3 := ⟨lw_mem 296 (by decide +kernel) rfl, lw_mem 56 (by decide +kernel) rfl, ⟨by decide +kernel, by decide +kernel⟩, by decide +kernel⟩
theorem cw_X1_78 : CWI RX1 78 yX4_init cX4_init 4 3 := ⟨cb_X4_init, lw_mem 294 (by decide +kernel) rfl, lw_mem 295 (by decide +kernel) rfl, by decide +kernel⟩
theorem oi_X4 : Cond.methodLink RX4 1 objectInit ∈ lw_all := lw_mem 297 (by decide +kernel) rfl
theorem cb_X3_putFile : CB yX3_putFile cX3_putFile 3 none 2 := ⟨lw_mem 316 (by decide +kernel) rfl, lw_mem 51 (by decide +kernel) rfl, ⟨by decide +kernel, by decide +kernel⟩, by decide +kernel⟩
theorem cw_X1_80 : CWV RX1 80 yX3_putFile cX3_putFile 3 none 2 := ⟨cb_X3_putFile, lw_mem 313 (by decide +kernel) rfl, lw_mem 314 (by decide +kernel) rfl, lw_mem 315 (by decide +kernel) rfl⟩
theorem cw_X3_40 : CWSN nestW RX3 40 yX5_isName cX5_isName 1 (some .boolean) 1 := ⟨cb_X5_isName, by decide +kernel, lw_mem 283 (by decide +kernel) rfl⟩
theorem cb_X5_remove : CB yX5_remove cX5_remove 2 (some .int) 1 := ⟨lw_mem 321 (by decide +kernel) rfl, lw_mem 49 (by decide +kernel) rfl, ⟨by decide +kernel, by decide +kernel⟩, by decide +kernel⟩
theorem cw_L_23 : CWV RL 23 yX5_remove cX5_remove 2 (some .int) 1 := ⟨cb_X5_remove, lw_mem 318 (by decide +kernel) rfl, lw_mem 319 (by decide +kernel) rfl, lw_mem 320 (by decide +kernel) rfl⟩
theorem cb_X1_removeEntry : CB yX1_removeEntry cX1_removeEntry 3 (some .int) 1 := ⟨lw_mem 325 (by decide +kernel) rfl, lw_mem 50 (by decide +kernel) rfl, ⟨by decide +kernel, by decide +kernel⟩, by decide +kernel⟩
theorem cw_X5_45 : CWV RX5 45 yX1_removeEntry cX1_removeEntry 3 (some .int) 1 := ⟨cb_X1_removeEntry, lw_mem 322 (by decide +kernel) rfl, lw_mem 323 (by decide +kernel) rfl, lw_mem 324 (by decide +kernel) rfl⟩
theorem cb_X3_fileOf : CB yX3_fileOf cX3_fileOf 2 (some (.object "WriteOnceDisc$StoredFile")) 1 := ⟨lw_mem 329 (by decide +kernel) rfl, lw_mem 51 (by decide +kernel) rfl, ⟨by decide +kernel, by decide +kernel⟩, by decide +kernel⟩
theorem cw_X1_90 : CWV RX1 90 yX3_fileOf cX3_fileOf 2 (some (.object "WriteOnceDisc$StoredFile")) 1 := ⟨cb_X3_fileOf, lw_mem 326 (by decide +kernel) rfl, lw_mem 327 (by decide +kernel) rfl, lw_mem 328 (by decide +kernel) rfl⟩
theorem cb_X3_countEntries : CB yX3_countEntries cX3_countEntries 3 (some .int) 0 := ⟨lw_mem 333 (by decide +kernel) rfl, lw_mem 51 (by decide +kernel) rfl, ⟨by decide +kernel, by decide +kernel⟩, by decide +kernel⟩
theorem cw_X1_94 : CWV RX1 94 yX3_countEntries cX3_countEntries 3 (some .int) 0 := ⟨cb_X3_countEntries, lw_mem 330 (by decide +kernel) rfl, lw_mem 331 (by decide +kernel) rfl, lw_mem 332 (by decide +kernel) rfl⟩
theorem cb_X5_keep : CB yX5_keep cX5_keep 3 (some .int) 2 := ⟨lw_mem 337 (by decide +kernel) rfl, lw_mem 49 (by decide +kernel) rfl, ⟨by decide +kernel, by decide +kernel⟩, by decide +kernel⟩
theorem cw_L_27 : CWV RL 27 yX5_keep cX5_keep 3 (some .int) 2 := ⟨cb_X5_keep, lw_mem 334 (by decide +kernel) rfl, lw_mem 335 (by decide +kernel) rfl, lw_mem 336 (by decide +kernel) rfl⟩
theorem cb_X1_keepEntry : CB yX1_keepEntry cX1_keepEntry 6 (some .int) 2 := ⟨lw_mem 341 (by decide +kernel) rfl, lw_mem 50 (by decide +kernel) rfl, ⟨by decide +kernel, by decide +kernel⟩, by decide +kernel⟩
theorem cw_X5_48 : CWV RX5 48 yX1_keepEntry cX1_keepEntry 6 (some .int) 2 := ⟨cb_X1_keepEntry, lw_mem 338 (by decide +kernel) rfl, lw_mem 339 (by decide +kernel) rfl, lw_mem 340 (by decide +kernel) rfl⟩
theorem cb_X5_close : CB yX5_close cX5_close 1 (some .int) 0 := ⟨lw_mem 345 (by decide +kernel) rfl, lw_mem 49 (by decide +kernel) rfl, ⟨by decide +kernel, by decide +kernel⟩, by decide +kernel⟩
theorem cw_L_31 : CWV RL 31 yX5_close cX5_close 1 (some .int) 0 := ⟨cb_X5_close, lw_mem 342 (by decide +kernel) rfl, lw_mem 343 (by decide +kernel) rfl, lw_mem 344 (by decide +kernel) rfl⟩
theorem cb_X1_closeSession : CB yX1_closeSession cX1_closeSession 2 (some .int) 0 := ⟨lw_mem 349 (by decide +kernel) rfl, lw_mem 50 (by decide +kernel) rfl, ⟨by decide +kernel, by decide +kernel⟩, by decide +kernel⟩
theorem cw_X5_51 : CWV RX5 51 yX1_closeSession cX1_closeSession 2 (some .int) 0 := ⟨cb_X1_closeSession, lw_mem 346 (by decide +kernel) rfl, lw_mem 347 (by decide +kernel) rfl, lw_mem 348 (by decide +kernel) rfl⟩
theorem cb_X1_leadOutOf : CB yX1_leadOutOf cX1_leadOutOf 2 (some .int) 1 := ⟨lw_mem 353 (by decide +kernel) rfl, lw_mem 50 (by decide +kernel) rfl, ⟨by decide +kernel, by decide +kernel⟩, by decide +kernel⟩
theorem cw_X1_101 : CWV RX1 101 yX1_leadOutOf cX1_leadOutOf 2 (some .int) 1 := ⟨cb_X1_leadOutOf, lw_mem 350 (by decide +kernel) rfl, lw_mem 352 (by decide +kernel) rfl, lw_mem 3 (by decide +kernel) rfl⟩
theorem cb_X5_eject : CB yX5_eject cX5_eject 1 (some .int) 0 := ⟨lw_mem 357 (by decide +kernel) rfl, lw_mem 49 (by decide +kernel) rfl, ⟨by decide +kernel, by decide +kernel⟩, by decide +kernel⟩
theorem cw_L_36 : CWV RL 36 yX5_eject cX5_eject 1 (some .int) 0 := ⟨cb_X5_eject, lw_mem 354 (by decide +kernel) rfl, lw_mem 355 (by decide +kernel) rfl, lw_mem 356 (by decide +kernel) rfl⟩
theorem cb_X1_breakSession : CB yX1_breakSession cX1_breakSession 2 (some .int) 0 := ⟨lw_mem 361 (by decide +kernel) rfl, lw_mem 50 (by decide +kernel) rfl, ⟨by decide +kernel, by decide +kernel⟩, by decide +kernel⟩
theorem cw_X5_55 : CWV RX5 55 yX1_breakSession cX1_breakSession 2 (some .int) 0 := ⟨cb_X1_breakSession, lw_mem 358 (by decide +kernel) rfl, lw_mem 359 (by decide +kernel) rfl, lw_mem 360 (by decide +kernel) rfl⟩
theorem cb_X5_repair : CB yX5_repair cX5_repair 2 (some .int) 1 := ⟨lw_mem 365 (by decide +kernel) rfl, lw_mem 49 (by decide +kernel) rfl, ⟨by decide +kernel, by decide +kernel⟩, by decide +kernel⟩
theorem cw_L_40 : CWV RL 40 yX5_repair cX5_repair 2 (some .int) 1 := ⟨cb_X5_repair, lw_mem 362 (by decide +kernel) rfl, lw_mem 363 (by decide +kernel) rfl, lw_mem 364 (by decide +kernel) rfl⟩
theorem cb_X1_repairSession : CB yX1_repairSession cX1_repairSession 4 (some .int) 1 := ⟨lw_mem 369 (by decide +kernel) rfl, lw_mem 50 (by decide +kernel) rfl, ⟨by decide +kernel, by decide +kernel⟩, by decide +kernel⟩
theorem cw_X5_58 : CWV RX5 58 yX1_repairSession cX1_repairSession 4 (some .int) 1 := ⟨cb_X1_repairSession, lw_mem 366 (by decide +kernel) rfl, lw_mem 367 (by decide +kernel) rfl, lw_mem 368 (by decide +kernel) rfl⟩
theorem cb_X5_damage : CB yX5_damage cX5_damage 2 (some .int) 1 := ⟨lw_mem 373 (by decide +kernel) rfl, lw_mem 49 (by decide +kernel) rfl, ⟨by decide +kernel, by decide +kernel⟩, by decide +kernel⟩
theorem cw_L_44 : CWV RL 44 yX5_damage cX5_damage 2 (some .int) 1 := ⟨cb_X5_damage, lw_mem 370 (by decide +kernel) rfl, lw_mem 371 (by decide +kernel) rfl, lw_mem 372 (by decide +kernel) rfl⟩
theorem cb_X1_damageSector : CB yX1_damageSector cX1_damageSector 2 (some .int) 1 := ⟨lw_mem 377 (by decide +kernel) rfl, lw_mem 50 (by decide +kernel) rfl, ⟨by decide +kernel, by decide +kernel⟩, by decide +kernel⟩
theorem cw_X5_61 : CWV RX5 61 yX1_damageSector cX1_damageSector 2 (some .int) 1 := ⟨cb_X1_damageSector, lw_mem 374 (by decide +kernel) rfl, lw_mem 375 (by decide +kernel) rfl, lw_mem 376 (by decide +kernel) rfl⟩
theorem cb_X5_isSector : CB yX5_isSector cX5_isSector 1 (some .boolean) 1 := ⟨lw_mem 380 (by decide +kernel) rfl, lw_mem 49 (by decide +kernel) rfl, ⟨by decide +kernel, by decide +kernel⟩, by decide +kernel⟩
theorem cw_X1_116 : CWSN nestW RX1 116 yX5_isSector cX5_isSector 1 (some .boolean) 1 := ⟨cb_X5_isSector, by decide +kernel, lw_mem 379 (by decide +kernel) rfl⟩
theorem cb_X5_set : CB yX5_set cX5_set 3 (some .int) 2 := ⟨lw_mem 384 (by decide +kernel) rfl, lw_mem 49 (by decide +kernel) rfl, ⟨by decide +kernel, by decide +kernel⟩, by decide +kernel⟩
theorem cw_L_48 : CWV RL 48 yX5_set cX5_set 3 (some .int) 2 := ⟨cb_X5_set, lw_mem 381 (by decide +kernel) rfl, lw_mem 382 (by decide +kernel) rfl, lw_mem 383 (by decide +kernel) rfl⟩
theorem cb_X1_changeSetting : CB yX1_changeSetting cX1_changeSetting 5 (some .int) 2 := ⟨lw_mem 388 (by decide +kernel) rfl, lw_mem 50 (by decide +kernel) rfl, ⟨by decide +kernel, by decide +kernel⟩, by decide +kernel⟩
theorem cw_X5_64 : CWV RX5 64 yX1_changeSetting cX1_changeSetting 5 (some .int) 2 := ⟨cb_X1_changeSetting, lw_mem 385 (by decide +kernel) rfl, lw_mem 386 (by decide +kernel) rfl, lw_mem 387 (by decide +kernel) rfl⟩
theorem cb_X5_isSetting : CB yX5_isSetting cX5_isSetting 1 (some .boolean) 1 := ⟨lw_mem 391 (by decide +kernel) rfl, lw_mem 49 (by decide +kernel) rfl, ⟨by decide +kernel, by decide +kernel⟩, by decide +kernel⟩
theorem cw_X1_119 : CWSN nestW RX1 119 yX5_isSetting cX5_isSetting 1 (some .boolean) 1 := ⟨cb_X5_isSetting, by decide +kernel, lw_mem 390 (by decide +kernel) rfl⟩
theorem cb_X5_append : CB yX5_append cX5_append 2 (some .int) 1 := ⟨lw_mem 395 (by decide +kernel) rfl, lw_mem 49 (by decide +kernel) rfl, ⟨by decide +kernel, by decide +kernel⟩, by decide +kernel⟩
theorem cw_L_52 : CWV RL 52 yX5_append cX5_append 2 (some .int) 1 := ⟨cb_X5_append, lw_mem 392 (by decide +kernel) rfl, lw_mem 393 (by decide +kernel) rfl, lw_mem 394 (by decide +kernel) rfl⟩
theorem cb_X0_addSign : CB yX0_addSign cX0_addSign 2 (some .boolean) 1 := ⟨lw_mem 399 (by decide +kernel) rfl, lw_mem 53 (by decide +kernel) rfl, ⟨by decide +kernel, by decide +kernel⟩, by decide +kernel⟩
theorem cw_X5_67 : CWV RX5 67 yX0_addSign cX0_addSign 2 (some .boolean) 1 := ⟨cb_X0_addSign, lw_mem 396 (by decide +kernel) rfl, lw_mem 397 (by decide +kernel) rfl, lw_mem 398 (by decide +kernel) rfl⟩
theorem cb_X5_clearText : CB yX5_clearText cX5_clearText 2 (some .int) 0 := ⟨lw_mem 403 (by decide +kernel) rfl, lw_mem 49 (by decide +kernel) rfl, ⟨by decide +kernel, by decide +kernel⟩, by decide +kernel⟩
theorem cw_L_56 : CWV RL 56 yX5_clearText cX5_clearText 2 (some .int) 0 := ⟨cb_X5_clearText, lw_mem 400 (by decide +kernel) rfl, lw_mem 401 (by decide +kernel) rfl, lw_mem 402 (by decide +kernel) rfl⟩
theorem cb_X5_fault : CB yX5_fault cX5_fault 1 (some .int) 0 := ⟨lw_mem 407 (by decide +kernel) rfl, lw_mem 49 (by decide +kernel) rfl, ⟨by decide +kernel, by decide +kernel⟩, by decide +kernel⟩
theorem cw_L_60 : CWV RL 60 yX5_fault cX5_fault 1 (some .int) 0 := ⟨cb_X5_fault, lw_mem 404 (by decide +kernel) rfl, lw_mem 405 (by decide +kernel) rfl, lw_mem 406 (by decide +kernel) rfl⟩
theorem cb_X0_firstFault : CB yX0_firstFault cX0_firstFault 2 (some .int) 0 := ⟨lw_mem 411 (by decide +kernel) rfl, lw_mem 53 (by decide +kernel) rfl, ⟨by decide +kernel, by decide +kernel⟩, by decide +kernel⟩
theorem cw_X5_75 : CWV RX5 75 yX0_firstFault cX0_firstFault 2 (some .int) 0 := ⟨cb_X0_firstFault, lw_mem 408 (by decide +kernel) rfl, lw_mem 409 (by decide +kernel) rfl, lw_mem 410 (by decide +kernel) rfl⟩
theorem cb_X0_readCommand : CB yX0_readCommand cX0_readCommand 1 (some .boolean) 0 := ⟨lw_mem 415 (by decide +kernel) rfl, lw_mem 53 (by decide +kernel) rfl, ⟨by decide +kernel, by decide +kernel⟩, by decide +kernel⟩
theorem cw_X0_22 : CWV RX0 22 yX0_readCommand cX0_readCommand 1 (some .boolean) 0 := ⟨cb_X0_readCommand, lw_mem 412 (by decide +kernel) rfl, lw_mem 413 (by decide +kernel) rfl, lw_mem 414 (by decide +kernel) rfl⟩
theorem cb_X0_signAt : CB yX0_signAt cX0_signAt 1 (some .int) 0 := ⟨lw_mem 419 (by decide +kernel) rfl, lw_mem 53 (by decide +kernel) rfl, ⟨by decide +kernel, by decide +kernel⟩, by decide +kernel⟩
theorem cw_X0_30 : CWV RX0 30 yX0_signAt cX0_signAt 1 (some .int) 0 := ⟨cb_X0_signAt, lw_mem 416 (by decide +kernel) rfl, lw_mem 418 (by decide +kernel) rfl, lw_mem 4 (by decide +kernel) rfl⟩
theorem cb_X0_readFirst : CB yX0_readFirst cX0_readFirst 2 (some .boolean) 1 := ⟨lw_mem 423 (by decide +kernel) rfl, lw_mem 53 (by decide +kernel) rfl, ⟨by decide +kernel, by decide +kernel⟩, by decide +kernel⟩
theorem cw_X0_37 : CWV RX0 37 yX0_readFirst cX0_readFirst 2 (some .boolean) 1 := ⟨cb_X0_readFirst, lw_mem 420 (by decide +kernel) rfl, lw_mem 422 (by decide +kernel) rfl, lw_mem 5 (by decide +kernel) rfl⟩
theorem cb_X0_readNumber : CB yX0_readNumber cX0_readNumber 6 (some .int) 2 := ⟨lw_mem 427 (by decide +kernel) rfl, lw_mem 53 (by decide +kernel) rfl, ⟨by decide +kernel, by decide +kernel⟩, by decide +kernel⟩
theorem cw_X0_45 : CWV RX0 45 yX0_readNumber cX0_readNumber 6 (some .int) 2 := ⟨cb_X0_readNumber, lw_mem 424 (by decide +kernel) rfl, lw_mem 426 (by decide +kernel) rfl, lw_mem 6 (by decide +kernel) rfl⟩
theorem cb_X0_digitAt : CB yX0_digitAt cX0_digitAt 2 (some .int) 0 := ⟨lw_mem 431 (by decide +kernel) rfl, lw_mem 53 (by decide +kernel) rfl, ⟨by decide +kernel, by decide +kernel⟩, by decide +kernel⟩
theorem cw_X0_55 : CWV RX0 55 yX0_digitAt cX0_digitAt 2 (some .int) 0 := ⟨cb_X0_digitAt, lw_mem 428 (by decide +kernel) rfl, lw_mem 430 (by decide +kernel) rfl, lw_mem 7 (by decide +kernel) rfl⟩
theorem cb_X0_readSign : CB yX0_readSign cX0_readSign 2 (some .boolean) 1 := ⟨lw_mem 435 (by decide +kernel) rfl, lw_mem 53 (by decide +kernel) rfl, ⟨by decide +kernel, by decide +kernel⟩, by decide +kernel⟩
theorem cw_X0_26 : CWV RX0 26 yX0_readSign cX0_readSign 2 (some .boolean) 1 := ⟨cb_X0_readSign, lw_mem 432 (by decide +kernel) rfl, lw_mem 433 (by decide +kernel) rfl, lw_mem 434 (by decide +kernel) rfl⟩
theorem cb_X0_readSecond : CB yX0_readSecond cX0_readSecond 3 (some .boolean) 2 := ⟨lw_mem 439 (by decide +kernel) rfl, lw_mem 53 (by decide +kernel) rfl, ⟨by decide +kernel, by decide +kernel⟩, by decide +kernel⟩
theorem cw_X0_41 : CWV RX0 41 yX0_readSecond cX0_readSecond 3 (some .boolean) 2 := ⟨cb_X0_readSecond, lw_mem 436 (by decide +kernel) rfl, lw_mem 438 (by decide +kernel) rfl, lw_mem 8 (by decide +kernel) rfl⟩
theorem cb_X5_run : CB yX5_run cX5_run 3 (some .int) 0 := ⟨lw_mem 443 (by decide +kernel) rfl, lw_mem 49 (by decide +kernel) rfl, ⟨by decide +kernel, by decide +kernel⟩, by decide +kernel⟩
theorem cw_L_64 : CWV RL 64 yX5_run cX5_run 3 (some .int) 0 := ⟨cb_X5_run, lw_mem 440 (by decide +kernel) rfl, lw_mem 441 (by decide +kernel) rfl, lw_mem 442 (by decide +kernel) rfl⟩
theorem cw_X5_81 : CWV RX5 81 yX0_readCommand cX0_readCommand 1 (some .boolean) 0 := ⟨cb_X0_readCommand, lw_mem 444 (by decide +kernel) rfl, lw_mem 413 (by decide +kernel) rfl, lw_mem 414 (by decide +kernel) rfl⟩
theorem cb_X5_executeCommand : CB yX5_executeCommand cX5_executeCommand 1 (some .int) 0 := ⟨lw_mem 448 (by decide +kernel) rfl, lw_mem 49 (by decide +kernel) rfl, ⟨by decide +kernel, by decide +kernel⟩, by decide +kernel⟩
theorem cw_X5_85 : CWV RX5 85 yX5_executeCommand cX5_executeCommand 1 (some .int) 0 := ⟨cb_X5_executeCommand, lw_mem 445 (by decide +kernel) rfl, lw_mem 447 (by decide +kernel) rfl, lw_mem 9 (by decide +kernel) rfl⟩
theorem cw_X5_92 : CWV RX5 92 yX0_readSign cX0_readSign 2 (some .boolean) 1 := ⟨cb_X0_readSign, lw_mem 449 (by decide +kernel) rfl, lw_mem 433 (by decide +kernel) rfl, lw_mem 434 (by decide +kernel) rfl⟩
theorem cb_X5_undo : CB yX5_undo cX5_undo 1 (some .int) 0 := ⟨lw_mem 453 (by decide +kernel) rfl, lw_mem 49 (by decide +kernel) rfl, ⟨by decide +kernel, by decide +kernel⟩, by decide +kernel⟩
theorem cw_L_68 : CWV RL 68 yX5_undo cX5_undo 1 (some .int) 0 := ⟨cb_X5_undo, lw_mem 450 (by decide +kernel) rfl, lw_mem 451 (by decide +kernel) rfl, lw_mem 452 (by decide +kernel) rfl⟩
theorem cb_X2_takeBack : CB yX2_takeBack cX2_takeBack 2 (some .boolean) 1 := ⟨lw_mem 457 (by decide +kernel) rfl, lw_mem 52 (by decide +kernel) rfl, ⟨by decide +kernel, by decide +kernel⟩, by decide +kernel⟩
theorem cw_X5_95 : CWV RX5 95 yX2_takeBack cX2_takeBack 2 (some .boolean) 1 := ⟨cb_X2_takeBack, lw_mem 454 (by decide +kernel) rfl, lw_mem 455 (by decide +kernel) rfl, lw_mem 456 (by decide +kernel) rfl⟩
theorem cb_X5_sessions : CB yX5_sessions cX5_sessions 1 (some .int) 0 := ⟨lw_mem 461 (by decide +kernel) rfl, lw_mem 49 (by decide +kernel) rfl, ⟨by decide +kernel, by decide +kernel⟩, by decide +kernel⟩
theorem cw_L_72 : CWV RL 72 yX5_sessions cX5_sessions 1 (some .int) 0 := ⟨cb_X5_sessions, lw_mem 458 (by decide +kernel) rfl, lw_mem 459 (by decide +kernel) rfl, lw_mem 460 (by decide +kernel) rfl⟩
theorem cb_X5_session : CB yX5_session cX5_session 4 (some .int) 2 := ⟨lw_mem 465 (by decide +kernel) rfl, lw_mem 49 (by decide +kernel) rfl, ⟨by decide +kernel, by decide +kernel⟩, by decide +kernel⟩
theorem cw_L_76 : CWV RL 76 yX5_session cX5_session 4 (some .int) 2 := ⟨cb_X5_session, lw_mem 462 (by decide +kernel) rfl, lw_mem 463 (by decide +kernel) rfl, lw_mem 464 (by decide +kernel) rfl⟩
theorem cw_X5_105 : CWV RX5 105 yX1_sessionAt cX1_sessionAt 2 (some (.object "WriteOnceDisc$Session")) 1 := ⟨cb_X1_sessionAt, lw_mem 466 (by decide +kernel) rfl, lw_mem 237 (by decide +kernel) rfl, lw_mem 238 (by decide +kernel) rfl⟩
theorem cw_X5_126 : CWV RX5 126 yX3_countEntries cX3_countEntries 3 (some .int) 0 := ⟨cb_X3_countEntries, lw_mem 467 (by decide +kernel) rfl, lw_mem 331 (by decide +kernel) rfl, lw_mem 332 (by decide +kernel) rfl⟩
theorem cw_X5_129 : CWV RX5 129 yX1_isReadableIf cX1_isReadableIf 3 (some .boolean) 2 := ⟨cb_X1_isReadableIf, lw_mem 468 (by decide +kernel) rfl, lw_mem 245 (by decide +kernel) rfl, lw_mem 246 (by decide +kernel) rfl⟩
theorem cb_X5_entry : CB yX5_entry cX5_entry 6 (some .int) 3 := ⟨lw_mem 472 (by decide +kernel) rfl, lw_mem 49 (by decide +kernel) rfl, ⟨by decide +kernel, by decide +kernel⟩, by decide +kernel⟩
theorem cw_L_80 : CWV RL 80 yX5_entry cX5_entry 6 (some .int) 3 := ⟨cb_X5_entry, lw_mem 469 (by decide +kernel) rfl, lw_mem 470 (by decide +kernel) rfl, lw_mem 471 (by decide +kernel) rfl⟩
theorem cw_X5_136 : CWS RX5 136 yX5_isName cX5_isName 1 (some .boolean) 1 := ⟨cb_X5_isName, lw_mem 473 (by decide +kernel) rfl, lw_mem 283 (by decide +kernel) rfl⟩
theorem cw_X5_139 : CWV RX5 139 yX3_fileOf cX3_fileOf 2 (some (.object "WriteOnceDisc$StoredFile")) 1 := ⟨cb_X3_fileOf, lw_mem 474 (by decide +kernel) rfl, lw_mem 327 (by decide +kernel) rfl, lw_mem 328 (by decide +kernel) rfl⟩
theorem cb_X5_valid : CB yX5_valid cX5_valid 1 (some .int) 0 := ⟨lw_mem 478 (by decide +kernel) rfl, lw_mem 49 (by decide +kernel) rfl, ⟨by decide +kernel, by decide +kernel⟩, by decide +kernel⟩
theorem cw_L_85 : CWV RL 85 yX5_valid cX5_valid 1 (some .int) 0 := ⟨cb_X5_valid, lw_mem 475 (by decide +kernel) rfl, lw_mem 476 (by decide +kernel) rfl, lw_mem 477 (by decide +kernel) rfl⟩
theorem cw_X5_152 : CWV RX5 152 yX1_validNumberIf cX1_validNumberIf 4 (some .int) 1 := ⟨cb_X1_validNumberIf, lw_mem 479 (by decide +kernel) rfl, lw_mem 241 (by decide +kernel) rfl, lw_mem 242 (by decide +kernel) rfl⟩
theorem cb_X5_next : CB yX5_next cX5_next 1 (some .int) 0 := ⟨lw_mem 483 (by decide +kernel) rfl, lw_mem 49 (by decide +kernel) rfl, ⟨by decide +kernel, by decide +kernel⟩, by decide +kernel⟩
theorem cw_L_89 : CWV RL 89 yX5_next cX5_next 1 (some .int) 0 := ⟨cb_X5_next, lw_mem 480 (by decide +kernel) rfl, lw_mem 481 (by decide +kernel) rfl, lw_mem 482 (by decide +kernel) rfl⟩
theorem cb_X5_damaged : CB yX5_damaged cX5_damaged 2 (some .int) 1 := ⟨lw_mem 487 (by decide +kernel) rfl, lw_mem 49 (by decide +kernel) rfl, ⟨by decide +kernel, by decide +kernel⟩, by decide +kernel⟩
theorem cw_L_93 : CWV RL 93 yX5_damaged cX5_damaged 2 (some .int) 1 := ⟨cb_X5_damaged, lw_mem 484 (by decide +kernel) rfl, lw_mem 485 (by decide +kernel) rfl, lw_mem 486 (by decide +kernel) rfl⟩
theorem cw_X5_158 : CWS RX5 158 yX5_isSector cX5_isSector 1 (some .boolean) 1 := ⟨cb_X5_isSector, lw_mem 488 (by decide +kernel) rfl, lw_mem 379 (by decide +kernel) rfl⟩
theorem cb_X5_use : CB yX5_use cX5_use 2 (some .int) 1 := ⟨lw_mem 492 (by decide +kernel) rfl, lw_mem 49 (by decide +kernel) rfl, ⟨by decide +kernel, by decide +kernel⟩, by decide +kernel⟩
theorem cw_L_97 : CWV RL 97 yX5_use cX5_use 2 (some .int) 1 := ⟨cb_X5_use, lw_mem 489 (by decide +kernel) rfl, lw_mem 490 (by decide +kernel) rfl, lw_mem 491 (by decide +kernel) rfl⟩
theorem cb_X1_useOf : CB yX1_useOf cX1_useOf 4 (some .int) 1 := ⟨lw_mem 496 (by decide +kernel) rfl, lw_mem 50 (by decide +kernel) rfl, ⟨by decide +kernel, by decide +kernel⟩, by decide +kernel⟩
theorem cw_X5_165 : CWV RX5 165 yX1_useOf cX1_useOf 4 (some .int) 1 := ⟨cb_X1_useOf, lw_mem 493 (by decide +kernel) rfl, lw_mem 494 (by decide +kernel) rfl, lw_mem 495 (by decide +kernel) rfl⟩
theorem cb_X3_hasTaken : CB yX3_hasTaken cX3_hasTaken 2 (some .boolean) 1 := ⟨lw_mem 500 (by decide +kernel) rfl, lw_mem 51 (by decide +kernel) rfl, ⟨by decide +kernel, by decide +kernel⟩, by decide +kernel⟩
theorem cw_X1_134 : CWV RX1 134 yX3_hasTaken cX3_hasTaken 2 (some .boolean) 1 := ⟨cb_X3_hasTaken, lw_mem 497 (by decide +kernel) rfl, lw_mem 498 (by decide +kernel) rfl, lw_mem 499 (by decide +kernel) rfl⟩
theorem cb_X3_useOf : CB yX3_useOf cX3_useOf 2 (some .int) 1 := ⟨lw_mem 504 (by decide +kernel) rfl, lw_mem 51 (by decide +kernel) rfl, ⟨by decide +kernel, by decide +kernel⟩, by decide +kernel⟩
theorem cw_X1_137 : CWV RX1 137 yX3_useOf cX3_useOf 2 (some .int) 1 := ⟨cb_X3_useOf, lw_mem 501 (by decide +kernel) rfl, lw_mem 502 (by decide +kernel) rfl, lw_mem 503 (by decide +kernel) rfl⟩
theorem cb_X5_setting : CB yX5_setting cX5_setting 2 (some .int) 1 := ⟨lw_mem 508 (by decide +kernel) rfl, lw_mem 49 (by decide +kernel) rfl, ⟨by decide +kernel, by decide +kernel⟩, by decide +kernel⟩
theorem cw_L_101 : CWV RL 101 yX5_setting cX5_setting 2 (some .int) 1 := ⟨cb_X5_setting, lw_mem 505 (by decide +kernel) rfl, lw_mem 506 (by decide +kernel) rfl, lw_mem 507 (by decide +kernel) rfl⟩
theorem cw_X5_168 : CWS RX5 168 yX5_isSetting cX5_isSetting 1 (some .boolean) 1 := ⟨cb_X5_isSetting, lw_mem 509 (by decide +kernel) rfl, lw_mem 390 (by decide +kernel) rfl⟩
theorem cb_X5_find : CB yX5_find cX5_find 3 (some .int) 1 := ⟨lw_mem 513 (by decide +kernel) rfl, lw_mem 49 (by decide +kernel) rfl, ⟨by decide +kernel, by decide +kernel⟩, by decide +kernel⟩
theorem cw_L_105 : CWV RL 105 yX5_find cX5_find 3 (some .int) 1 := ⟨cb_X5_find, lw_mem 510 (by decide +kernel) rfl, lw_mem 511 (by decide +kernel) rfl, lw_mem 512 (by decide +kernel) rfl⟩
theorem cb_X1_foundFile : CB yX1_foundFile cX1_foundFile 3 (some (.object "WriteOnceDisc$StoredFile")) 1 := ⟨lw_mem 517 (by decide +kernel) rfl, lw_mem 50 (by decide +kernel) rfl, ⟨by decide +kernel, by decide +kernel⟩, by decide +kernel⟩
theorem cw_X5_175 : CWV RX5 175 yX1_foundFile cX1_foundFile 3 (some (.object "WriteOnceDisc$StoredFile")) 1 := ⟨cb_X1_foundFile, lw_mem 514 (by decide +kernel) rfl, lw_mem 515 (by decide +kernel) rfl, lw_mem 516 (by decide +kernel) rfl⟩
theorem cb_X5_intact : CB yX5_intact cX5_intact 3 (some .int) 1 := ⟨lw_mem 521 (by decide +kernel) rfl, lw_mem 49 (by decide +kernel) rfl, ⟨by decide +kernel, by decide +kernel⟩, by decide +kernel⟩
theorem cw_L_109 : CWV RL 109 yX5_intact cX5_intact 3 (some .int) 1 := ⟨cb_X5_intact, lw_mem 518 (by decide +kernel) rfl, lw_mem 519 (by decide +kernel) rfl, lw_mem 520 (by decide +kernel) rfl⟩
theorem cb_X1_isIntactIf : CB yX1_isIntactIf cX1_isIntactIf 3 (some .boolean) 2 := ⟨lw_mem 525 (by decide +kernel) rfl, lw_mem 50 (by decide +kernel) rfl, ⟨by decide +kernel, by decide +kernel⟩, by decide +kernel⟩
theorem cw_X5_178 : CWV RX5 178 yX1_isIntactIf cX1_isIntactIf 3 (some .boolean) 2 := ⟨cb_X1_isIntactIf, lw_mem 522 (by decide +kernel) rfl, lw_mem 523 (by decide +kernel) rfl, lw_mem 524 (by decide +kernel) rfl⟩
theorem cb_X5_intactFiles : CB yX5_intactFiles cX5_intactFiles 1 (some .int) 0 := ⟨lw_mem 529 (by decide +kernel) rfl, lw_mem 49 (by decide +kernel) rfl, ⟨by decide +kernel, by decide +kernel⟩, by decide +kernel⟩
theorem cw_L_113 : CWV RL 113 yX5_intactFiles cX5_intactFiles 1 (some .int) 0 := ⟨cb_X5_intactFiles, lw_mem 526 (by decide +kernel) rfl, lw_mem 527 (by decide +kernel) rfl, lw_mem 528 (by decide +kernel) rfl⟩
theorem cb_X1_countIntactIf : CB yX1_countIntactIf cX1_countIntactIf 6 (some .int) 1 := ⟨lw_mem 533 (by decide +kernel) rfl, lw_mem 50 (by decide +kernel) rfl, ⟨by decide +kernel, by decide +kernel⟩, by decide +kernel⟩
theorem cw_X5_182 : CWV RX5 182 yX1_countIntactIf cX1_countIntactIf 6 (some .int) 1 := ⟨cb_X1_countIntactIf, lw_mem 530 (by decide +kernel) rfl, lw_mem 531 (by decide +kernel) rfl, lw_mem 532 (by decide +kernel) rfl⟩
theorem cw_X1_143 : CWV RX1 143 yX1_isIntactIf cX1_isIntactIf 3 (some .boolean) 2 := ⟨cb_X1_isIntactIf, lw_mem 534 (by decide +kernel) rfl, lw_mem 523 (by decide +kernel) rfl, lw_mem 524 (by decide +kernel) rfl⟩
theorem cb_X5_versions : CB yX5_versions cX5_versions 2 (some .int) 1 := ⟨lw_mem 538 (by decide +kernel) rfl, lw_mem 49 (by decide +kernel) rfl, ⟨by decide +kernel, by decide +kernel⟩, by decide +kernel⟩
theorem cw_L_117 : CWV RL 117 yX5_versions cX5_versions 2 (some .int) 1 := ⟨cb_X5_versions, lw_mem 535 (by decide +kernel) rfl, lw_mem 536 (by decide +kernel) rfl, lw_mem 537 (by decide +kernel) rfl⟩
theorem cb_X5_latestIntact : CB yX5_latestIntact cX5_latestIntact 2 (some .int) 1 := ⟨lw_mem 542 (by decide +kernel) rfl, lw_mem 49 (by decide +kernel) rfl, ⟨by decide +kernel, by decide +kernel⟩, by decide +kernel⟩
theorem cw_L_121 : CWV RL 121 yX5_latestIntact cX5_latestIntact 2 (some .int) 1 := ⟨cb_X5_latestIntact, lw_mem 539 (by decide +kernel) rfl, lw_mem 540 (by decide +kernel) rfl, lw_mem 541 (by decide +kernel) rfl⟩
theorem cb_X1_latestWithIntact : CB yX1_latestWithIntact cX1_latestWithIntact 5 (some .int) 1 := ⟨lw_mem 546 (by decide +kernel) rfl, lw_mem 50 (by decide +kernel) rfl, ⟨by decide +kernel, by decide +kernel⟩, by decide +kernel⟩
theorem cw_X5_188 : CWV RX5 188 yX1_latestWithIntact cX1_latestWithIntact 5 (some .int) 1 := ⟨cb_X1_latestWithIntact, lw_mem 543 (by decide +kernel) rfl, lw_mem 544 (by decide +kernel) rfl, lw_mem 545 (by decide +kernel) rfl⟩
theorem cb_X5_lost : CB yX5_lost cX5_lost 1 (some .int) 0 := ⟨lw_mem 550 (by decide +kernel) rfl, lw_mem 49 (by decide +kernel) rfl, ⟨by decide +kernel, by decide +kernel⟩, by decide +kernel⟩
theorem cw_L_125 : CWV RL 125 yX5_lost cX5_lost 1 (some .int) 0 := ⟨cb_X5_lost, lw_mem 547 (by decide +kernel) rfl, lw_mem 548 (by decide +kernel) rfl, lw_mem 549 (by decide +kernel) rfl⟩
theorem cb_X1_countFoundSectors : CB yX1_countFoundSectors cX1_countFoundSectors 5 (some .int) 0 := ⟨lw_mem 554 (by decide +kernel) rfl, lw_mem 50 (by decide +kernel) rfl, ⟨by decide +kernel, by decide +kernel⟩, by decide +kernel⟩
theorem cw_X5_191 : CWV RX5 191 yX1_countFoundSectors cX1_countFoundSectors 5 (some .int) 0 := ⟨cb_X1_countFoundSectors, lw_mem 551 (by decide +kernel) rfl, lw_mem 552 (by decide +kernel) rfl, lw_mem 553 (by decide +kernel) rfl⟩
theorem cb_X5_usedWell : CB yX5_usedWell cX5_usedWell 1 (some .float) 0 := ⟨lw_mem 558 (by decide +kernel) rfl, lw_mem 49 (by decide +kernel) rfl, ⟨by decide +kernel, by decide +kernel⟩, by decide +kernel⟩
theorem cw_L_129 : CWV RL 129 yX5_usedWell cX5_usedWell 1 (some .float) 0 := ⟨cb_X5_usedWell, lw_mem 555 (by decide +kernel) rfl, lw_mem 556 (by decide +kernel) rfl, lw_mem 557 (by decide +kernel) rfl⟩
theorem cb_X5_largest : CB yX5_largest cX5_largest 1 (some .int) 0 := ⟨lw_mem 562 (by decide +kernel) rfl, lw_mem 49 (by decide +kernel) rfl, ⟨by decide +kernel, by decide +kernel⟩, by decide +kernel⟩
theorem cw_L_134 : CWV RL 134 yX5_largest cX5_largest 1 (some .int) 0 := ⟨cb_X5_largest, lw_mem 559 (by decide +kernel) rfl, lw_mem 560 (by decide +kernel) rfl, lw_mem 561 (by decide +kernel) rfl⟩
theorem cw_X5_194 : CWV RX5 194 yX1_roomForFiles cX1_roomForFiles 2 (some .int) 0 := ⟨cb_X1_roomForFiles, lw_mem 563 (by decide +kernel) rfl, lw_mem 289 (by decide +kernel) rfl, lw_mem 290 (by decide +kernel) rfl⟩
theorem cw_X5_197 : CWS RX5 197 yJ9_min_7cf53 cJ9_min_7cf53 2 (some .int) 2 := ⟨cb_J9_min_7cf53, lw_mem 564 (by decide +kernel) rfl, lw_mem 253 (by decide +kernel) rfl⟩
theorem cb_X5_filesLeft : CB yX5_filesLeft cX5_filesLeft 2 (some .int) 1 := ⟨lw_mem 568 (by decide +kernel) rfl, lw_mem 49 (by decide +kernel) rfl, ⟨by decide +kernel, by decide +kernel⟩, by decide +kernel⟩
theorem cw_L_138 : CWV RL 138 yX5_filesLeft cX5_filesLeft 2 (some .int) 1 := ⟨cb_X5_filesLeft, lw_mem 565 (by decide +kernel) rfl, lw_mem 566 (by decide +kernel) rfl, lw_mem 567 (by decide +kernel) rfl⟩
theorem cw_X5_202 : CWS RX5 202 yX5_isFileSize cX5_isFileSize 1 (some .boolean) 1 := ⟨cb_X5_isFileSize, lw_mem 569 (by decide +kernel) rfl, lw_mem 286 (by decide +kernel) rfl⟩
theorem cb_X5_filesEach : CB yX5_filesEach cX5_filesEach 2 (some .int) 1 := ⟨lw_mem 573 (by decide +kernel) rfl, lw_mem 49 (by decide +kernel) rfl, ⟨by decide +kernel, by decide +kernel⟩, by decide +kernel⟩
theorem cw_L_142 : CWV RL 142 yX5_filesEach cX5_filesEach 2 (some .int) 1 := ⟨cb_X5_filesEach, lw_mem 570 (by decide +kernel) rfl, lw_mem 571 (by decide +kernel) rfl, lw_mem 572 (by decide +kernel) rfl⟩
theorem cb_X1_sessionsOfOneFile : CB yX1_sessionsOfOneFile cX1_sessionsOfOneFile 7 (some .int) 1 := ⟨lw_mem 577 (by decide +kernel) rfl, lw_mem 50 (by decide +kernel) rfl, ⟨by decide +kernel, by decide +kernel⟩, by decide +kernel⟩
theorem cw_X5_205 : CWV RX5 205 yX1_sessionsOfOneFile cX1_sessionsOfOneFile 7 (some .int) 1 := ⟨cb_X1_sessionsOfOneFile, lw_mem 574 (by decide +kernel) rfl, lw_mem 575 (by decide +kernel) rfl, lw_mem 576 (by decide +kernel) rfl⟩
theorem cb_X5_validIf : CB yX5_validIf cX5_validIf 2 (some .int) 1 := ⟨lw_mem 581 (by decide +kernel) rfl, lw_mem 49 (by decide +kernel) rfl, ⟨by decide +kernel, by decide +kernel⟩, by decide +kernel⟩
theorem cw_L_146 : CWV RL 146 yX5_validIf cX5_validIf 2 (some .int) 1 := ⟨cb_X5_validIf, lw_mem 578 (by decide +kernel) rfl, lw_mem 579 (by decide +kernel) rfl, lw_mem 580 (by decide +kernel) rfl⟩
theorem cb_X5_worstSector : CB yX5_worstSector cX5_worstSector 1 (some .int) 0 := ⟨lw_mem 585 (by decide +kernel) rfl, lw_mem 49 (by decide +kernel) rfl, ⟨by decide +kernel, by decide +kernel⟩, by decide +kernel⟩
theorem cw_L_150 : CWV RL 150 yX5_worstSector cX5_worstSector 1 (some .int) 0 := ⟨cb_X5_worstSector, lw_mem 582 (by decide +kernel) rfl, lw_mem 583 (by decide +kernel) rfl, lw_mem 584 (by decide +kernel) rfl⟩
theorem cb_X1_mostHarmfulSector : CB yX1_mostHarmfulSector cX1_mostHarmfulSector 5 (some .int) 0 := ⟨lw_mem 589 (by decide +kernel) rfl, lw_mem 50 (by decide +kernel) rfl, ⟨by decide +kernel, by decide +kernel⟩, by decide +kernel⟩
theorem cw_X5_208 : CWV RX5 208 yX1_mostHarmfulSector cX1_mostHarmfulSector 5 (some .int) 0 := ⟨cb_X1_mostHarmfulSector, lw_mem 586 (by decide +kernel) rfl, lw_mem 587 (by decide +kernel) rfl, lw_mem 588 (by decide +kernel) rfl⟩
theorem cb_X1_moreHarmful : CB yX1_moreHarmful cX1_moreHarmful 5 (some .int) 2 := ⟨lw_mem 593 (by decide +kernel) rfl, lw_mem 50 (by decide +kernel) rfl, ⟨by decide +kernel, by decide +kernel⟩, by decide +kernel⟩
theorem cw_X1_147 : CWV RX1 147 yX1_moreHarmful cX1_moreHarmful 5 (some .int) 2 := ⟨cb_X1_moreHarmful, lw_mem 590 (by decide +kernel) rfl, lw_mem 592 (by decide +kernel) rfl, lw_mem 10 (by decide +kernel) rfl⟩
theorem cw_X1_150 : CWV RX1 150 yX1_countIntactIf cX1_countIntactIf 6 (some .int) 1 := ⟨cb_X1_countIntactIf, lw_mem 594 (by decide +kernel) rfl, lw_mem 531 (by decide +kernel) rfl, lw_mem 532 (by decide +kernel) rfl⟩
theorem cb_X6_init : CB yX6_init cX6_init 1 none 0 := ⟨lw_mem 599 (by decide +kernel) rfl, lw_mem 54 (by decide +kernel) rfl, ⟨by decide +kernel, by decide +kernel⟩, by decide +kernel⟩
theorem cw_L_12 : CWI RL 12 yX6_init cX6_init 1 0 := ⟨cb_X6_init, lw_mem 597 (by decide +kernel) rfl, lw_mem 598 (by decide +kernel) rfl, by decide +kernel⟩
theorem oi_X6 : Cond.methodLink RX6 1 objectInit ∈ lw_all := lw_mem 600 (by decide +kernel) rfl
theorem cb_X6_begin : CB yX6_begin cX6_begin 2 (some .int) 1 := ⟨lw_mem 638 (by decide +kernel) rfl, lw_mem 54 (by decide +kernel) rfl, ⟨by decide +kernel, by decide +kernel⟩, by decide +kernel⟩
theorem cw_L_17 : CWV RL 17 yX6_begin cX6_begin 2 (some .int) 1 := ⟨cb_X6_begin, lw_mem 635 (by decide +kernel) rfl, lw_mem 636 (by decide +kernel) rfl, lw_mem 637 (by decide +kernel) rfl⟩
theorem cb_X6_begins : CB yX6_begins cX6_begins 1 none 0 := ⟨lw_mem 642 (by decide +kernel) rfl, lw_mem 54 (by decide +kernel) rfl, ⟨by decide +kernel, by decide +kernel⟩, by decide +kernel⟩
theorem cw_X6_92 : CWV RX6 92 yX6_begins cX6_begins 1 none 0 := ⟨cb_X6_begins, lw_mem 639 (by decide +kernel) rfl, lw_mem 641 (by decide +kernel) rfl, lw_mem 11 (by decide +kernel) rfl⟩
theorem cb_X6_copies : CB yX6_copies cX6_copies 5 none 4 := ⟨lw_mem 645 (by decide +kernel) rfl, lw_mem 54 (by decide +kernel) rfl, ⟨by decide +kernel, by decide +kernel⟩, by decide +kernel⟩
theorem cw_X6_22 : CWS RX6 22 yX6_copies cX6_copies 5 none 4 := ⟨cb_X6_copies, lw_mem 643 (by decide +kernel) rfl, lw_mem 644 (by decide +kernel) rfl⟩
theorem cb_X6_goBegin : CB yX6_goBegin cX6_goBegin 5 (some .int) 1 := ⟨lw_mem 649 (by decide +kernel) rfl, lw_mem 54 (by decide +kernel) rfl, ⟨by decide +kernel, by decide +kernel⟩, by decide +kernel⟩
theorem cw_X6_95 : CWV RX6 95 yX6_goBegin cX6_goBegin 5 (some .int) 1 := ⟨cb_X6_goBegin, lw_mem 646 (by decide +kernel) rfl, lw_mem 648 (by decide +kernel) rfl, lw_mem 12 (by decide +kernel) rfl⟩
theorem cb_X6_in : CB yX6_in cX6_in 3 (some .boolean) 3 := ⟨lw_mem 652 (by decide +kernel) rfl, lw_mem 54 (by decide +kernel) rfl, ⟨by decide +kernel, by decide +kernel⟩, by decide +kernel⟩
theorem cw_X6_30 : CWS RX6 30 yX6_in cX6_in 3 (some .boolean) 3 := ⟨cb_X6_in, lw_mem 650 (by decide +kernel) rfl, lw_mem 651 (by decide +kernel) rfl⟩
theorem cb_X6_openOne : CB yX6_openOne cX6_openOne 2 (some .int) 0 := ⟨lw_mem 656 (by decide +kernel) rfl, lw_mem 54 (by decide +kernel) rfl, ⟨by decide +kernel, by decide +kernel⟩, by decide +kernel⟩
theorem cw_X6_63 : CWV RX6 63 yX6_openOne cX6_openOne 2 (some .int) 0 := ⟨cb_X6_openOne, lw_mem 653 (by decide +kernel) rfl, lw_mem 655 (by decide +kernel) rfl, lw_mem 13 (by decide +kernel) rfl⟩
theorem cb_X6_of : CB yX6_of cX6_of 3 (some .int) 2 := ⟨lw_mem 660 (by decide +kernel) rfl, lw_mem 54 (by decide +kernel) rfl, ⟨by decide +kernel, by decide +kernel⟩, by decide +kernel⟩
theorem cw_X6_34 : CWV RX6 34 yX6_of cX6_of 3 (some .int) 2 := ⟨cb_X6_of, lw_mem 657 (by decide +kernel) rfl, lw_mem 659 (by decide +kernel) rfl, lw_mem 14 (by decide +kernel) rfl⟩
theorem cb_X6_validOne : CB yX6_validOne cX6_validOne 2 (some .int) 0 := ⟨lw_mem 664 (by decide +kernel) rfl, lw_mem 54 (by decide +kernel) rfl, ⟨by decide +kernel, by decide +kernel⟩, by decide +kernel⟩
theorem cw_X6_67 : CWV RX6 67 yX6_validOne cX6_validOne 2 (some .int) 0 := ⟨cb_X6_validOne, lw_mem 661 (by decide +kernel) rfl, lw_mem 663 (by decide +kernel) rfl, lw_mem 15 (by decide +kernel) rfl⟩
theorem cb_X6_isReadable : CB yX6_isReadable cX6_isReadable 2 (some .boolean) 1 := ⟨lw_mem 668 (by decide +kernel) rfl, lw_mem 54 (by decide +kernel) rfl, ⟨by decide +kernel, by decide +kernel⟩, by decide +kernel⟩
theorem cw_X6_49 : CWV RX6 49 yX6_isReadable cX6_isReadable 2 (some .boolean) 1 := ⟨cb_X6_isReadable, lw_mem 665 (by decide +kernel) rfl, lw_mem 667 (by decide +kernel) rfl, lw_mem 16 (by decide +kernel) rfl⟩
theorem cb_X6_isWhole : CB yX6_isWhole cX6_isWhole 5 (some .boolean) 2 := ⟨lw_mem 672 (by decide +kernel) rfl, lw_mem 54 (by decide +kernel) rfl, ⟨by decide +kernel, by decide +kernel⟩, by decide +kernel⟩
theorem cw_X6_45 : CWV RX6 45 yX6_isWhole cX6_isWhole 5 (some .boolean) 2 := ⟨cb_X6_isWhole, lw_mem 669 (by decide +kernel) rfl, lw_mem 671 (by decide +kernel) rfl, lw_mem 17 (by decide +kernel) rfl⟩
theorem cb_X6_isHurt : CB yX6_isHurt cX6_isHurt 2 (some .boolean) 1 := ⟨lw_mem 676 (by decide +kernel) rfl, lw_mem 54 (by decide +kernel) rfl, ⟨by decide +kernel, by decide +kernel⟩, by decide +kernel⟩
theorem cw_X6_41 : CWV RX6 41 yX6_isHurt cX6_isHurt 2 (some .boolean) 1 := ⟨cb_X6_isHurt, lw_mem 673 (by decide +kernel) rfl, lw_mem 675 (by decide +kernel) rfl, lw_mem 18 (by decide +kernel) rfl⟩
theorem cb_X6_entryOf : CB yX6_entryOf cX6_entryOf 3 (some .int) 2 := ⟨lw_mem 680 (by decide +kernel) rfl, lw_mem 54 (by decide +kernel) rfl, ⟨by decide +kernel, by decide +kernel⟩, by decide +kernel⟩
theorem cw_X6_38 : CWV RX6 38 yX6_entryOf cX6_entryOf 3 (some .int) 2 := ⟨cb_X6_entryOf, lw_mem 677 (by decide +kernel) rfl, lw_mem 679 (by decide +kernel) rfl, lw_mem 19 (by decide +kernel) rfl⟩
theorem cb_X6_lays : CB yX6_lays cX6_lays 4 none 3 := ⟨lw_mem 684 (by decide +kernel) rfl, lw_mem 54 (by decide +kernel) rfl, ⟨by decide +kernel, by decide +kernel⟩, by decide +kernel⟩
theorem cw_X6_59 : CWV RX6 59 yX6_lays cX6_lays 4 none 3 := ⟨cb_X6_lays, lw_mem 681 (by decide +kernel) rfl, lw_mem 683 (by decide +kernel) rfl, lw_mem 20 (by decide +kernel) rfl⟩
theorem cb_X6_takesSectors : CB yX6_takesSectors cX6_takesSectors 3 none 2 := ⟨lw_mem 688 (by decide +kernel) rfl, lw_mem 54 (by decide +kernel) rfl, ⟨by decide +kernel, by decide +kernel⟩, by decide +kernel⟩
theorem cw_X6_70 : CWV RX6 70 yX6_takesSectors cX6_takesSectors 3 none 2 := ⟨cb_X6_takesSectors, lw_mem 685 (by decide +kernel) rfl, lw_mem 687 (by decide +kernel) rfl, lw_mem 21 (by decide +kernel) rfl⟩
theorem cb_X6_records : CB yX6_records cX6_records 3 (some .int) 1 := ⟨lw_mem 692 (by decide +kernel) rfl, lw_mem 54 (by decide +kernel) rfl, ⟨by decide +kernel, by decide +kernel⟩, by decide +kernel⟩
theorem cw_X6_98 : CWV RX6 98 yX6_records cX6_records 3 (some .int) 1 := ⟨cb_X6_records, lw_mem 689 (by decide +kernel) rfl, lw_mem 691 (by decide +kernel) rfl, lw_mem 22 (by decide +kernel) rfl⟩
theorem cb_X6_write : CB yX6_write cX6_write 3 (some .int) 2 := ⟨lw_mem 696 (by decide +kernel) rfl, lw_mem 54 (by decide +kernel) rfl, ⟨by decide +kernel, by decide +kernel⟩, by decide +kernel⟩
theorem cw_L_22 : CWV RL 22 yX6_write cX6_write 3 (some .int) 2 := ⟨cb_X6_write, lw_mem 693 (by decide +kernel) rfl, lw_mem 694 (by decide +kernel) rfl, lw_mem 695 (by decide +kernel) rfl⟩
theorem cb_X6_goWrite : CB yX6_goWrite cX6_goWrite 5 (some .int) 2 := ⟨lw_mem 700 (by decide +kernel) rfl, lw_mem 54 (by decide +kernel) rfl, ⟨by decide +kernel, by decide +kernel⟩, by decide +kernel⟩
theorem cw_X6_101 : CWV RX6 101 yX6_goWrite cX6_goWrite 5 (some .int) 2 := ⟨cb_X6_goWrite, lw_mem 697 (by decide +kernel) rfl, lw_mem 699 (by decide +kernel) rfl, lw_mem 23 (by decide +kernel) rfl⟩
theorem cb_X6_isName : CB yX6_isName cX6_isName 1 (some .boolean) 1 := ⟨lw_mem 703 (by decide +kernel) rfl, lw_mem 54 (by decide +kernel) rfl, ⟨by decide +kernel, by decide +kernel⟩, by decide +kernel⟩
theorem cw_X6_74 : CWS RX6 74 yX6_isName cX6_isName 1 (some .boolean) 1 := ⟨cb_X6_isName, lw_mem 701 (by decide +kernel) rfl, lw_mem 702 (by decide +kernel) rfl⟩
theorem cb_X6_remove : CB yX6_remove cX6_remove 2 (some .int) 1 := ⟨lw_mem 707 (by decide +kernel) rfl, lw_mem 54 (by decide +kernel) rfl, ⟨by decide +kernel, by decide +kernel⟩, by decide +kernel⟩
theorem cw_L_26 : CWV RL 26 yX6_remove cX6_remove 2 (some .int) 1 := ⟨cb_X6_remove, lw_mem 704 (by decide +kernel) rfl, lw_mem 705 (by decide +kernel) rfl, lw_mem 706 (by decide +kernel) rfl⟩
theorem cb_X6_goRemove : CB yX6_goRemove cX6_goRemove 3 (some .int) 1 := ⟨lw_mem 711 (by decide +kernel) rfl, lw_mem 54 (by decide +kernel) rfl, ⟨by decide +kernel, by decide +kernel⟩, by decide +kernel⟩
theorem cw_X6_104 : CWV RX6 104 yX6_goRemove cX6_goRemove 3 (some .int) 1 := ⟨cb_X6_goRemove, lw_mem 708 (by decide +kernel) rfl, lw_mem 710 (by decide +kernel) rfl, lw_mem 24 (by decide +kernel) rfl⟩
theorem cb_X6_entries : CB yX6_entries cX6_entries 4 (some .int) 1 := ⟨lw_mem 715 (by decide +kernel) rfl, lw_mem 54 (by decide +kernel) rfl, ⟨by decide +kernel, by decide +kernel⟩, by decide +kernel⟩
theorem cw_X6_77 : CWV RX6 77 yX6_entries cX6_entries 4 (some .int) 1 := ⟨cb_X6_entries, lw_mem 712 (by decide +kernel) rfl, lw_mem 714 (by decide +kernel) rfl, lw_mem 25 (by decide +kernel) rfl⟩
theorem cb_X6_keep : CB yX6_keep cX6_keep 3 (some .int) 2 := ⟨lw_mem 719 (by decide +kernel) rfl, lw_mem 54 (by decide +kernel) rfl, ⟨by decide +kernel, by decide +kernel⟩, by decide +kernel⟩
theorem cw_L_30 : CWV RL 30 yX6_keep cX6_keep 3 (some .int) 2 := ⟨cb_X6_keep, lw_mem 716 (by decide +kernel) rfl, lw_mem 717 (by decide +kernel) rfl, lw_mem 718 (by decide +kernel) rfl⟩
theorem cb_X6_goKeep : CB yX6_goKeep cX6_goKeep 4 (some .int) 2 := ⟨lw_mem 723 (by decide +kernel) rfl, lw_mem 54 (by decide +kernel) rfl, ⟨by decide +kernel, by decide +kernel⟩, by decide +kernel⟩
theorem cw_X6_107 : CWV RX6 107 yX6_goKeep cX6_goKeep 4 (some .int) 2 := ⟨cb_X6_goKeep, lw_mem 720 (by decide +kernel) rfl, lw_mem 722 (by decide +kernel) rfl, lw_mem 26 (by decide +kernel) rfl⟩
theorem cb_X6_isSession : CB yX6_isSession cX6_isSession 2 (some .boolean) 1 := ⟨lw_mem 727 (by decide +kernel) rfl, lw_mem 54 (by decide +kernel) rfl, ⟨by decide +kernel, by decide +kernel⟩, by decide +kernel⟩
theorem cw_X6_80 : CWV RX6 80 yX6_isSession cX6_isSession 2 (some .boolean) 1 := ⟨cb_X6_isSession, lw_mem 724 (by decide +kernel) rfl, lw_mem 726 (by decide +kernel) rfl, lw_mem 27 (by decide +kernel) rfl⟩
theorem cb_X6_firstOf : CB yX6_firstOf cX6_firstOf 1 (some .int) 1 := ⟨lw_mem 730 (by decide +kernel) rfl, lw_mem 54 (by decide +kernel) rfl, ⟨by decide +kernel, by decide +kernel⟩, by decide +kernel⟩
theorem cw_X6_52 : CWS RX6 52 yX6_firstOf cX6_firstOf 1 (some .int) 1 := ⟨cb_X6_firstOf, lw_mem 728 (by decide +kernel) rfl, lw_mem 729 (by decide +kernel) rfl⟩
theorem cb_X6_close : CB yX6_close cX6_close 1 (some .int) 0 := ⟨lw_mem 734 (by decide +kernel) rfl, lw_mem 54 (by decide +kernel) rfl, ⟨by decide +kernel, by decide +kernel⟩, by decide +kernel⟩
theorem cw_L_35 : CWV RL 35 yX6_close cX6_close 1 (some .int) 0 := ⟨cb_X6_close, lw_mem 731 (by decide +kernel) rfl, lw_mem 732 (by decide +kernel) rfl, lw_mem 733 (by decide +kernel) rfl⟩
theorem cb_X6_goClose : CB yX6_goClose cX6_goClose 1 (some .int) 0 := ⟨lw_mem 738 (by decide +kernel) rfl, lw_mem 54 (by decide +kernel) rfl, ⟨by decide +kernel, by decide +kernel⟩, by decide +kernel⟩
theorem cw_X6_110 : CWV RX6 110 yX6_goClose cX6_goClose 1 (some .int) 0 := ⟨cb_X6_goClose, lw_mem 735 (by decide +kernel) rfl, lw_mem 737 (by decide +kernel) rfl, lw_mem 28 (by decide +kernel) rfl⟩
theorem cb_X6_closes : CB yX6_closes cX6_closes 2 (some .int) 1 := ⟨lw_mem 742 (by decide +kernel) rfl, lw_mem 54 (by decide +kernel) rfl, ⟨by decide +kernel, by decide +kernel⟩, by decide +kernel⟩
theorem cw_X6_83 : CWV RX6 83 yX6_closes cX6_closes 2 (some .int) 1 := ⟨cb_X6_closes, lw_mem 739 (by decide +kernel) rfl, lw_mem 741 (by decide +kernel) rfl, lw_mem 29 (by decide +kernel) rfl⟩
theorem cb_X6_eject : CB yX6_eject cX6_eject 1 (some .int) 0 := ⟨lw_mem 746 (by decide +kernel) rfl, lw_mem 54 (by decide +kernel) rfl, ⟨by decide +kernel, by decide +kernel⟩, by decide +kernel⟩
theorem cw_L_39 : CWV RL 39 yX6_eject cX6_eject 1 (some .int) 0 := ⟨cb_X6_eject, lw_mem 743 (by decide +kernel) rfl, lw_mem 744 (by decide +kernel) rfl, lw_mem 745 (by decide +kernel) rfl⟩
theorem cb_X6_goEject : CB yX6_goEject cX6_goEject 2 (some .int) 0 := ⟨lw_mem 750 (by decide +kernel) rfl, lw_mem 54 (by decide +kernel) rfl, ⟨by decide +kernel, by decide +kernel⟩, by decide +kernel⟩
theorem cw_X6_113 : CWV RX6 113 yX6_goEject cX6_goEject 2 (some .int) 0 := ⟨cb_X6_goEject, lw_mem 747 (by decide +kernel) rfl, lw_mem 749 (by decide +kernel) rfl, lw_mem 30 (by decide +kernel) rfl⟩
theorem cb_X6_repair : CB yX6_repair cX6_repair 2 (some .int) 1 := ⟨lw_mem 754 (by decide +kernel) rfl, lw_mem 54 (by decide +kernel) rfl, ⟨by decide +kernel, by decide +kernel⟩, by decide +kernel⟩
theorem cw_L_43 : CWV RL 43 yX6_repair cX6_repair 2 (some .int) 1 := ⟨cb_X6_repair, lw_mem 751 (by decide +kernel) rfl, lw_mem 752 (by decide +kernel) rfl, lw_mem 753 (by decide +kernel) rfl⟩
theorem cb_X6_goRepair : CB yX6_goRepair cX6_goRepair 3 (some .int) 1 := ⟨lw_mem 758 (by decide +kernel) rfl, lw_mem 54 (by decide +kernel) rfl, ⟨by decide +kernel, by decide +kernel⟩, by decide +kernel⟩
theorem cw_X6_116 : CWV RX6 116 yX6_goRepair cX6_goRepair 3 (some .int) 1 := ⟨cb_X6_goRepair, lw_mem 755 (by decide +kernel) rfl, lw_mem 757 (by decide +kernel) rfl, lw_mem 31 (by decide +kernel) rfl⟩
theorem cb_X6_damage : CB yX6_damage cX6_damage 2 (some .int) 1 := ⟨lw_mem 762 (by decide +kernel) rfl, lw_mem 54 (by decide +kernel) rfl, ⟨by decide +kernel, by decide +kernel⟩, by decide +kernel⟩
theorem cw_L_47 : CWV RL 47 yX6_damage cX6_damage 2 (some .int) 1 := ⟨cb_X6_damage, lw_mem 759 (by decide +kernel) rfl, lw_mem 760 (by decide +kernel) rfl, lw_mem 761 (by decide +kernel) rfl⟩
theorem cb_X6_goDamage : CB yX6_goDamage cX6_goDamage 2 (some .int) 1 := ⟨lw_mem 766 (by decide +kernel) rfl, lw_mem 54 (by decide +kernel) rfl, ⟨by decide +kernel, by decide +kernel⟩, by decide +kernel⟩
theorem cw_X6_119 : CWV RX6 119 yX6_goDamage cX6_goDamage 2 (some .int) 1 := ⟨cb_X6_goDamage, lw_mem 763 (by decide +kernel) rfl, lw_mem 765 (by decide +kernel) rfl, lw_mem 32 (by decide +kernel) rfl⟩
theorem cb_X6_isSector : CB yX6_isSector cX6_isSector 1 (some .boolean) 1 := ⟨lw_mem 769 (by decide +kernel) rfl, lw_mem 54 (by decide +kernel) rfl, ⟨by decide +kernel, by decide +kernel⟩, by decide +kernel⟩
theorem cw_X6_86 : CWS RX6 86 yX6_isSector cX6_isSector 1 (some .boolean) 1 := ⟨cb_X6_isSector, lw_mem 767 (by decide +kernel) rfl, lw_mem 768 (by decide +kernel) rfl⟩
theorem cb_X6_damages : CB yX6_damages cX6_damages 3 (some .int) 0 := ⟨lw_mem 773 (by decide +kernel) rfl, lw_mem 54 (by decide +kernel) rfl, ⟨by decide +kernel, by decide +kernel⟩, by decide +kernel⟩
theorem cw_X6_89 : CWV RX6 89 yX6_damages cX6_damages 3 (some .int) 0 := ⟨cb_X6_damages, lw_mem 770 (by decide +kernel) rfl, lw_mem 772 (by decide +kernel) rfl, lw_mem 33 (by decide +kernel) rfl⟩
theorem cb_X6_set : CB yX6_set cX6_set 3 (some .int) 2 := ⟨lw_mem 777 (by decide +kernel) rfl, lw_mem 54 (by decide +kernel) rfl, ⟨by decide +kernel, by decide +kernel⟩, by decide +kernel⟩
theorem cw_L_51 : CWV RL 51 yX6_set cX6_set 3 (some .int) 2 := ⟨cb_X6_set, lw_mem 774 (by decide +kernel) rfl, lw_mem 775 (by decide +kernel) rfl, lw_mem 776 (by decide +kernel) rfl⟩
theorem cb_X6_goSet : CB yX6_goSet cX6_goSet 4 (some .int) 2 := ⟨lw_mem 781 (by decide +kernel) rfl, lw_mem 54 (by decide +kernel) rfl, ⟨by decide +kernel, by decide +kernel⟩, by decide +kernel⟩
theorem cw_X6_122 : CWV RX6 122 yX6_goSet cX6_goSet 4 (some .int) 2 := ⟨cb_X6_goSet, lw_mem 778 (by decide +kernel) rfl, lw_mem 780 (by decide +kernel) rfl, lw_mem 34 (by decide +kernel) rfl⟩
theorem cb_X6_append : CB yX6_append cX6_append 2 (some .int) 1 := ⟨lw_mem 785 (by decide +kernel) rfl, lw_mem 54 (by decide +kernel) rfl, ⟨by decide +kernel, by decide +kernel⟩, by decide +kernel⟩
theorem cw_L_55 : CWV RL 55 yX6_append cX6_append 2 (some .int) 1 := ⟨cb_X6_append, lw_mem 782 (by decide +kernel) rfl, lw_mem 783 (by decide +kernel) rfl, lw_mem 784 (by decide +kernel) rfl⟩
theorem cb_X6_clearText : CB yX6_clearText cX6_clearText 2 (some .int) 0 := ⟨lw_mem 789 (by decide +kernel) rfl, lw_mem 54 (by decide +kernel) rfl, ⟨by decide +kernel, by decide +kernel⟩, by decide +kernel⟩
theorem cw_L_59 : CWV RL 59 yX6_clearText cX6_clearText 2 (some .int) 0 := ⟨cb_X6_clearText, lw_mem 786 (by decide +kernel) rfl, lw_mem 787 (by decide +kernel) rfl, lw_mem 788 (by decide +kernel) rfl⟩
theorem cb_X6_fault : CB yX6_fault cX6_fault 1 (some .int) 0 := ⟨lw_mem 793 (by decide +kernel) rfl, lw_mem 54 (by decide +kernel) rfl, ⟨by decide +kernel, by decide +kernel⟩, by decide +kernel⟩
theorem cw_L_63 : CWV RL 63 yX6_fault cX6_fault 1 (some .int) 0 := ⟨cb_X6_fault, lw_mem 790 (by decide +kernel) rfl, lw_mem 791 (by decide +kernel) rfl, lw_mem 792 (by decide +kernel) rfl⟩
theorem cb_X6_isText : CB yX6_isText cX6_isText 1 (some .boolean) 0 := ⟨lw_mem 797 (by decide +kernel) rfl, lw_mem 54 (by decide +kernel) rfl, ⟨by decide +kernel, by decide +kernel⟩, by decide +kernel⟩
theorem cw_X6_157 : CWV RX6 157 yX6_isText cX6_isText 1 (some .boolean) 0 := ⟨cb_X6_isText, lw_mem 794 (by decide +kernel) rfl, lw_mem 796 (by decide +kernel) rfl, lw_mem 35 (by decide +kernel) rfl⟩
theorem cb_X6_takesCommand : CB yX6_takesCommand cX6_takesCommand 3 none 0 := ⟨lw_mem 801 (by decide +kernel) rfl, lw_mem 54 (by decide +kernel) rfl, ⟨by decide +kernel, by decide +kernel⟩, by decide +kernel⟩
theorem cw_X6_154 : CWV RX6 154 yX6_takesCommand cX6_takesCommand 3 none 0 := ⟨cb_X6_takesCommand, lw_mem 798 (by decide +kernel) rfl, lw_mem 800 (by decide +kernel) rfl, lw_mem 36 (by decide +kernel) rfl⟩
theorem cb_X6_here : CB yX6_here cX6_here 1 (some .int) 0 := ⟨lw_mem 805 (by decide +kernel) rfl, lw_mem 54 (by decide +kernel) rfl, ⟨by decide +kernel, by decide +kernel⟩, by decide +kernel⟩
theorem cw_X6_135 : CWV RX6 135 yX6_here cX6_here 1 (some .int) 0 := ⟨cb_X6_here, lw_mem 802 (by decide +kernel) rfl, lw_mem 804 (by decide +kernel) rfl, lw_mem 37 (by decide +kernel) rfl⟩
theorem cb_X6_takes : CB yX6_takes cX6_takes 2 none 1 := ⟨lw_mem 809 (by decide +kernel) rfl, lw_mem 54 (by decide +kernel) rfl, ⟨by decide +kernel, by decide +kernel⟩, by decide +kernel⟩
theorem cw_X6_138 : CWV RX6 138 yX6_takes cX6_takes 2 none 1 := ⟨cb_X6_takes, lw_mem 806 (by decide +kernel) rfl, lw_mem 808 (by decide +kernel) rfl, lw_mem 38 (by decide +kernel) rfl⟩
theorem cb_X6_takesNumber : CB yX6_takesNumber cX6_takesNumber 4 (some .int) 2 := ⟨lw_mem 813 (by decide +kernel) rfl, lw_mem 54 (by decide +kernel) rfl, ⟨by decide +kernel, by decide +kernel⟩, by decide +kernel⟩
theorem cw_X6_145 : CWV RX6 145 yX6_takesNumber cX6_takesNumber 4 (some .int) 2 := ⟨cb_X6_takesNumber, lw_mem 810 (by decide +kernel) rfl, lw_mem 812 (by decide +kernel) rfl, lw_mem 39 (by decide +kernel) rfl⟩
theorem cb_X6_run : CB yX6_run cX6_run 3 (some .int) 0 := ⟨lw_mem 817 (by decide +kernel) rfl, lw_mem 54 (by decide +kernel) rfl, ⟨by decide +kernel, by decide +kernel⟩, by decide +kernel⟩
theorem cw_L_67 : CWV RL 67 yX6_run cX6_run 3 (some .int) 0 := ⟨cb_X6_run, lw_mem 814 (by decide +kernel) rfl, lw_mem 815 (by decide +kernel) rfl, lw_mem 816 (by decide +kernel) rfl⟩
theorem cb_X6_doesCommand : CB yX6_doesCommand cX6_doesCommand 1 (some .int) 0 := ⟨lw_mem 821 (by decide +kernel) rfl, lw_mem 54 (by decide +kernel) rfl, ⟨by decide +kernel, by decide +kernel⟩, by decide +kernel⟩
theorem cw_X6_161 : CWV RX6 161 yX6_doesCommand cX6_doesCommand 1 (some .int) 0 := ⟨cb_X6_doesCommand, lw_mem 818 (by decide +kernel) rfl, lw_mem 820 (by decide +kernel) rfl, lw_mem 40 (by decide +kernel) rfl⟩
theorem cb_X6_undo : CB yX6_undo cX6_undo 1 (some .int) 0 := ⟨lw_mem 825 (by decide +kernel) rfl, lw_mem 54 (by decide +kernel) rfl, ⟨by decide +kernel, by decide +kernel⟩, by decide +kernel⟩
theorem cw_L_71 : CWV RL 71 yX6_undo cX6_undo 1 (some .int) 0 := ⟨cb_X6_undo, lw_mem 822 (by decide +kernel) rfl, lw_mem 823 (by decide +kernel) rfl, lw_mem 824 (by decide +kernel) rfl⟩
theorem cb_X6_sessions : CB yX6_sessions cX6_sessions 1 (some .int) 0 := ⟨lw_mem 829 (by decide +kernel) rfl, lw_mem 54 (by decide +kernel) rfl, ⟨by decide +kernel, by decide +kernel⟩, by decide +kernel⟩
theorem cw_L_75 : CWV RL 75 yX6_sessions cX6_sessions 1 (some .int) 0 := ⟨cb_X6_sessions, lw_mem 826 (by decide +kernel) rfl, lw_mem 827 (by decide +kernel) rfl, lw_mem 828 (by decide +kernel) rfl⟩
theorem cb_X6_session : CB yX6_session cX6_session 3 (some .int) 2 := ⟨lw_mem 833 (by decide +kernel) rfl, lw_mem 54 (by decide +kernel) rfl, ⟨by decide +kernel, by decide +kernel⟩, by decide +kernel⟩
theorem cw_L_79 : CWV RL 79 yX6_session cX6_session 3 (some .int) 2 := ⟨cb_X6_session, lw_mem 830 (by decide +kernel) rfl, lw_mem 831 (by decide +kernel) rfl, lw_mem 832 (by decide +kernel) rfl⟩
theorem cb_X6_entry : CB yX6_entry cX6_entry 5 (some .int) 3 := ⟨lw_mem 837 (by decide +kernel) rfl, lw_mem 54 (by decide +kernel) rfl, ⟨by decide +kernel, by decide +kernel⟩, by decide +kernel⟩
theorem cw_L_84 : CWV RL 84 yX6_entry cX6_entry 5 (some .int) 3 := ⟨cb_X6_entry, lw_mem 834 (by decide +kernel) rfl, lw_mem 835 (by decide +kernel) rfl, lw_mem 836 (by decide +kernel) rfl⟩
theorem cb_X6_sizeOf : CB yX6_sizeOf cX6_sizeOf 1 (some .int) 1 := ⟨lw_mem 840 (by decide +kernel) rfl, lw_mem 54 (by decide +kernel) rfl, ⟨by decide +kernel, by decide +kernel⟩, by decide +kernel⟩
theorem cw_X6_56 : CWS RX6 56 yX6_sizeOf cX6_sizeOf 1 (some .int) 1 := ⟨cb_X6_sizeOf, lw_mem 838 (by decide +kernel) rfl, lw_mem 839 (by decide +kernel) rfl⟩
theorem cb_X6_sessionAt : CB yX6_sessionAt cX6_sessionAt 4 (some .int) 1 := ⟨lw_mem 844 (by decide +kernel) rfl, lw_mem 54 (by decide +kernel) rfl, ⟨by decide +kernel, by decide +kernel⟩, by decide +kernel⟩
theorem cw_X6_164 : CWV RX6 164 yX6_sessionAt cX6_sessionAt 4 (some .int) 1 := ⟨cb_X6_sessionAt, lw_mem 841 (by decide +kernel) rfl, lw_mem 843 (by decide +kernel) rfl, lw_mem 41 (by decide +kernel) rfl⟩
theorem cb_X6_valid : CB yX6_valid cX6_valid 1 (some .int) 0 := ⟨lw_mem 848 (by decide +kernel) rfl, lw_mem 54 (by decide +kernel) rfl, ⟨by decide +kernel, by decide +kernel⟩, by decide +kernel⟩
theorem cw_L_88 : CWV RL 88 yX6_valid cX6_valid 1 (some .int) 0 := ⟨cb_X6_valid, lw_mem 845 (by decide +kernel) rfl, lw_mem 846 (by decide +kernel) rfl, lw_mem 847 (by decide +kernel) rfl⟩
theorem cb_X6_next : CB yX6_next cX6_next 1 (some .int) 0 := ⟨lw_mem 852 (by decide +kernel) rfl, lw_mem 54 (by decide +kernel) rfl, ⟨by decide +kernel, by decide +kernel⟩, by decide +kernel⟩
theorem cw_L_92 : CWV RL 92 yX6_next cX6_next 1 (some .int) 0 := ⟨cb_X6_next, lw_mem 849 (by decide +kernel) rfl, lw_mem 850 (by decide +kernel) rfl, lw_mem 851 (by decide +kernel) rfl⟩
theorem cb_X6_damaged : CB yX6_damaged cX6_damaged 2 (some .int) 1 := ⟨lw_mem 856 (by decide +kernel) rfl, lw_mem 54 (by decide +kernel) rfl, ⟨by decide +kernel, by decide +kernel⟩, by decide +kernel⟩
theorem cw_L_96 : CWV RL 96 yX6_damaged cX6_damaged 2 (some .int) 1 := ⟨cb_X6_damaged, lw_mem 853 (by decide +kernel) rfl, lw_mem 854 (by decide +kernel) rfl, lw_mem 855 (by decide +kernel) rfl⟩
theorem cb_X6_use : CB yX6_use cX6_use 5 (some .int) 1 := ⟨lw_mem 860 (by decide +kernel) rfl, lw_mem 54 (by decide +kernel) rfl, ⟨by decide +kernel, by decide +kernel⟩, by decide +kernel⟩
theorem cw_L_100 : CWV RL 100 yX6_use cX6_use 5 (some .int) 1 := ⟨cb_X6_use, lw_mem 857 (by decide +kernel) rfl, lw_mem 858 (by decide +kernel) rfl, lw_mem 859 (by decide +kernel) rfl⟩
theorem cb_X6_setting : CB yX6_setting cX6_setting 2 (some .int) 1 := ⟨lw_mem 864 (by decide +kernel) rfl, lw_mem 54 (by decide +kernel) rfl, ⟨by decide +kernel, by decide +kernel⟩, by decide +kernel⟩
theorem cw_L_104 : CWV RL 104 yX6_setting cX6_setting 2 (some .int) 1 := ⟨cb_X6_setting, lw_mem 861 (by decide +kernel) rfl, lw_mem 862 (by decide +kernel) rfl, lw_mem 863 (by decide +kernel) rfl⟩
theorem cb_X6_find : CB yX6_find cX6_find 2 (some .int) 1 := ⟨lw_mem 868 (by decide +kernel) rfl, lw_mem 54 (by decide +kernel) rfl, ⟨by decide +kernel, by decide +kernel⟩, by decide +kernel⟩
theorem cw_L_108 : CWV RL 108 yX6_find cX6_find 2 (some .int) 1 := ⟨cb_X6_find, lw_mem 865 (by decide +kernel) rfl, lw_mem 866 (by decide +kernel) rfl, lw_mem 867 (by decide +kernel) rfl⟩
theorem cb_X6_found : CB yX6_found cX6_found 2 (some .int) 1 := ⟨lw_mem 872 (by decide +kernel) rfl, lw_mem 54 (by decide +kernel) rfl, ⟨by decide +kernel, by decide +kernel⟩, by decide +kernel⟩
theorem cw_X6_167 : CWV RX6 167 yX6_found cX6_found 2 (some .int) 1 := ⟨cb_X6_found, lw_mem 869 (by decide +kernel) rfl, lw_mem 871 (by decide +kernel) rfl, lw_mem 42 (by decide +kernel) rfl⟩
theorem cb_X6_intact : CB yX6_intact cX6_intact 2 (some .int) 1 := ⟨lw_mem 876 (by decide +kernel) rfl, lw_mem 54 (by decide +kernel) rfl, ⟨by decide +kernel, by decide +kernel⟩, by decide +kernel⟩
theorem cw_L_112 : CWV RL 112 yX6_intact cX6_intact 2 (some .int) 1 := ⟨cb_X6_intact, lw_mem 873 (by decide +kernel) rfl, lw_mem 874 (by decide +kernel) rfl, lw_mem 875 (by decide +kernel) rfl⟩
theorem cb_X6_isIntact : CB yX6_isIntact cX6_isIntact 2 (some .boolean) 1 := ⟨lw_mem 880 (by decide +kernel) rfl, lw_mem 54 (by decide +kernel) rfl, ⟨by decide +kernel, by decide +kernel⟩, by decide +kernel⟩
theorem cw_X6_170 : CWV RX6 170 yX6_isIntact cX6_isIntact 2 (some .boolean) 1 := ⟨cb_X6_isIntact, lw_mem 877 (by decide +kernel) rfl, lw_mem 879 (by decide +kernel) rfl, lw_mem 43 (by decide +kernel) rfl⟩
theorem cb_X6_intactFiles : CB yX6_intactFiles cX6_intactFiles 1 (some .int) 0 := ⟨lw_mem 884 (by decide +kernel) rfl, lw_mem 54 (by decide +kernel) rfl, ⟨by decide +kernel, by decide +kernel⟩, by decide +kernel⟩
theorem cw_L_116 : CWV RL 116 yX6_intactFiles cX6_intactFiles 1 (some .int) 0 := ⟨cb_X6_intactFiles, lw_mem 881 (by decide +kernel) rfl, lw_mem 882 (by decide +kernel) rfl, lw_mem 883 (by decide +kernel) rfl⟩
theorem cb_X6_wholeFiles : CB yX6_wholeFiles cX6_wholeFiles 5 (some .int) 0 := ⟨lw_mem 888 (by decide +kernel) rfl, lw_mem 54 (by decide +kernel) rfl, ⟨by decide +kernel, by decide +kernel⟩, by decide +kernel⟩
theorem cw_X6_173 : CWV RX6 173 yX6_wholeFiles cX6_wholeFiles 5 (some .int) 0 := ⟨cb_X6_wholeFiles, lw_mem 885 (by decide +kernel) rfl, lw_mem 887 (by decide +kernel) rfl, lw_mem 44 (by decide +kernel) rfl⟩
theorem cb_X6_versions : CB yX6_versions cX6_versions 2 (some .int) 1 := ⟨lw_mem 892 (by decide +kernel) rfl, lw_mem 54 (by decide +kernel) rfl, ⟨by decide +kernel, by decide +kernel⟩, by decide +kernel⟩
theorem cw_L_120 : CWV RL 120 yX6_versions cX6_versions 2 (some .int) 1 := ⟨cb_X6_versions, lw_mem 889 (by decide +kernel) rfl, lw_mem 890 (by decide +kernel) rfl, lw_mem 891 (by decide +kernel) rfl⟩
theorem cb_X6_latestIntact : CB yX6_latestIntact cX6_latestIntact 5 (some .int) 1 := ⟨lw_mem 896 (by decide +kernel) rfl, lw_mem 54 (by decide +kernel) rfl, ⟨by decide +kernel, by decide +kernel⟩, by decide +kernel⟩
theorem cw_L_124 : CWV RL 124 yX6_latestIntact cX6_latestIntact 5 (some .int) 1 := ⟨cb_X6_latestIntact, lw_mem 893 (by decide +kernel) rfl, lw_mem 894 (by decide +kernel) rfl, lw_mem 895 (by decide +kernel) rfl⟩
theorem cb_X6_lost : CB yX6_lost cX6_lost 1 (some .int) 0 := ⟨lw_mem 900 (by decide +kernel) rfl, lw_mem 54 (by decide +kernel) rfl, ⟨by decide +kernel, by decide +kernel⟩, by decide +kernel⟩
theorem cw_L_128 : CWV RL 128 yX6_lost cX6_lost 1 (some .int) 0 := ⟨cb_X6_lost, lw_mem 897 (by decide +kernel) rfl, lw_mem 898 (by decide +kernel) rfl, lw_mem 899 (by decide +kernel) rfl⟩
theorem cb_X6_foundSectors : CB yX6_foundSectors cX6_foundSectors 4 (some .int) 0 := ⟨lw_mem 904 (by decide +kernel) rfl, lw_mem 54 (by decide +kernel) rfl, ⟨by decide +kernel, by decide +kernel⟩, by decide +kernel⟩
theorem cw_X6_176 : CWV RX6 176 yX6_foundSectors cX6_foundSectors 4 (some .int) 0 := ⟨cb_X6_foundSectors, lw_mem 901 (by decide +kernel) rfl, lw_mem 903 (by decide +kernel) rfl, lw_mem 45 (by decide +kernel) rfl⟩
theorem cb_X6_usedWell : CB yX6_usedWell cX6_usedWell 1 (some .float) 0 := ⟨lw_mem 908 (by decide +kernel) rfl, lw_mem 54 (by decide +kernel) rfl, ⟨by decide +kernel, by decide +kernel⟩, by decide +kernel⟩
theorem cw_L_133 : CWV RL 133 yX6_usedWell cX6_usedWell 1 (some .float) 0 := ⟨cb_X6_usedWell, lw_mem 905 (by decide +kernel) rfl, lw_mem 906 (by decide +kernel) rfl, lw_mem 907 (by decide +kernel) rfl⟩
theorem cb_X6_largest : CB yX6_largest cX6_largest 1 (some .int) 0 := ⟨lw_mem 912 (by decide +kernel) rfl, lw_mem 54 (by decide +kernel) rfl, ⟨by decide +kernel, by decide +kernel⟩, by decide +kernel⟩
theorem cw_L_137 : CWV RL 137 yX6_largest cX6_largest 1 (some .int) 0 := ⟨cb_X6_largest, lw_mem 909 (by decide +kernel) rfl, lw_mem 910 (by decide +kernel) rfl, lw_mem 911 (by decide +kernel) rfl⟩
theorem cb_X6_room : CB yX6_room cX6_room 4 (some .int) 0 := ⟨lw_mem 916 (by decide +kernel) rfl, lw_mem 54 (by decide +kernel) rfl, ⟨by decide +kernel, by decide +kernel⟩, by decide +kernel⟩
theorem cw_X6_179 : CWV RX6 179 yX6_room cX6_room 4 (some .int) 0 := ⟨cb_X6_room, lw_mem 913 (by decide +kernel) rfl, lw_mem 915 (by decide +kernel) rfl, lw_mem 46 (by decide +kernel) rfl⟩
theorem cb_X6_filesLeft : CB yX6_filesLeft cX6_filesLeft 2 (some .int) 1 := ⟨lw_mem 920 (by decide +kernel) rfl, lw_mem 54 (by decide +kernel) rfl, ⟨by decide +kernel, by decide +kernel⟩, by decide +kernel⟩
theorem cw_L_141 : CWV RL 141 yX6_filesLeft cX6_filesLeft 2 (some .int) 1 := ⟨cb_X6_filesLeft, lw_mem 917 (by decide +kernel) rfl, lw_mem 918 (by decide +kernel) rfl, lw_mem 919 (by decide +kernel) rfl⟩
theorem cb_X6_filesEach : CB yX6_filesEach cX6_filesEach 7 (some .int) 1 := ⟨lw_mem 924 (by decide +kernel) rfl, lw_mem 54 (by decide +kernel) rfl, ⟨by decide +kernel, by decide +kernel⟩, by decide +kernel⟩
theorem cw_L_145 : CWV RL 145 yX6_filesEach cX6_filesEach 7 (some .int) 1 := ⟨cb_X6_filesEach, lw_mem 921 (by decide +kernel) rfl, lw_mem 922 (by decide +kernel) rfl, lw_mem 923 (by decide +kernel) rfl⟩
theorem cb_X6_validIf : CB yX6_validIf cX6_validIf 4 (some .int) 1 := ⟨lw_mem 928 (by decide +kernel) rfl, lw_mem 54 (by decide +kernel) rfl, ⟨by decide +kernel, by decide +kernel⟩, by decide +kernel⟩
theorem cw_L_149 : CWV RL 149 yX6_validIf cX6_validIf 4 (some .int) 1 := ⟨cb_X6_validIf, lw_mem 925 (by decide +kernel) rfl, lw_mem 926 (by decide +kernel) rfl, lw_mem 927 (by decide +kernel) rfl⟩
theorem cb_X6_hurtOf : CB yX6_hurtOf cX6_hurtOf 3 (some .int) 1 := ⟨lw_mem 932 (by decide +kernel) rfl, lw_mem 54 (by decide +kernel) rfl, ⟨by decide +kernel, by decide +kernel⟩, by decide +kernel⟩
theorem cw_X6_182 : CWV RX6 182 yX6_hurtOf cX6_hurtOf 3 (some .int) 1 := ⟨cb_X6_hurtOf, lw_mem 929 (by decide +kernel) rfl, lw_mem 931 (by decide +kernel) rfl, lw_mem 47 (by decide +kernel) rfl⟩
theorem cb_X6_worstSector : CB yX6_worstSector cX6_worstSector 6 (some .int) 0 := ⟨lw_mem 936 (by decide +kernel) rfl, lw_mem 54 (by decide +kernel) rfl, ⟨by decide +kernel, by decide +kernel⟩, by decide +kernel⟩
theorem cw_L_153 : CWV RL 153 yX6_worstSector cX6_worstSector 6 (some .int) 0 := ⟨cb_X6_worstSector, lw_mem 933 (by decide +kernel) rfl, lw_mem 934 (by decide +kernel) rfl, lw_mem 935 (by decide +kernel) rfl⟩
theorem cl_L_7 : Cond.classLink RL 7 RX5 ∈ lw_all := lw_mem 57 (by decide +kernel) rfl
theorem nw_L_7 : NW RL 7 5 [.null, .null, .null] := ⟨RX5, TX5, 3, tyX5, rfl, in_X5, tyX5_ok, cl_L_7, lw_mem 58 (by decide +kernel) rfl, lw_mem 49 (by decide +kernel) rfl, fun j hj => by rcases (show j = 0 ∨ j = 1 ∨ j = 2 by omega) with rfl | rfl | rfl <;> rfl, rfl⟩
theorem cl_X5_9 : Cond.classLink RX5 9 RX1 ∈ lw_all := lw_mem 65 (by decide +kernel) rfl
theorem nw_X5_9 : NW RX5 9 1 [.null, .null, .null, .null, .int 0, .int 0, .int 0] := ⟨RX1, TX1, 7, tyX1, rfl, in_X1, tyX1_ok, cl_X5_9, lw_mem 66 (by decide +kernel) rfl, lw_mem 50 (by decide +kernel) rfl, fun j hj => by rcases (show j = 0 ∨ j = 1 ∨ j = 2 ∨ j = 3 ∨ j = 4 ∨ j = 5 ∨ j = 6 by omega) with rfl | rfl | rfl | rfl | rfl | rfl | rfl <;> rfl, rfl⟩
theorem cl_X1_9 : Cond.classLink RX1 9 RX3 ∈ lw_all := lw_mem 71 (by decide +kernel) rfl
theorem nw_X1_9 : NW RX1 9 3 [.null, .int 0, .int 0, .int 0, .int 0, .int 0, .int 0] := ⟨RX3, TX3, 7, tyX3, rfl, in_X3, tyX3_ok, cl_X1_9, lw_mem 73 (by decide +kernel) rfl, lw_mem 51 (by decide +kernel) rfl, fun j hj => by rcases (show j = 0 ∨ j = 1 ∨ j = 2 ∨ j = 3 ∨ j = 4 ∨ j = 5 ∨ j = 6 by omega) with rfl | rfl | rfl | rfl | rfl | rfl | rfl <;> rfl, rfl⟩
theorem cl_X3_9 : Cond.classLink RX3 9 RX4 ∈ lw_all := lw_mem 78 (by decide +kernel) rfl
theorem nw_X3_9 : NW RX3 9 4 [.int 0, .int 0, .int 0] := ⟨RX4, TX4, 3, tyX4, rfl, in_X4, tyX4_ok, cl_X3_9, lw_mem 293 (by decide +kernel) rfl, lw_mem 56 (by decide +kernel) rfl, fun j hj => by rcases (show j = 0 ∨ j = 1 ∨ j = 2 by omega) with rfl | rfl | rfl <;> rfl, rfl⟩
theorem cl_X5_16 : Cond.classLink RX5 16 RX2 ∈ lw_all := lw_mem 143 (by decide +kernel) rfl
theorem nw_X5_16 : NW RX5 16 2 [.null, .int 0, .int 0] := ⟨RX2, TX2, 3, tyX2, rfl, in_X2, tyX2_ok, cl_X5_16, lw_mem 144 (by decide +kernel) rfl, lw_mem 52 (by decide +kernel) rfl, fun j hj => by rcases (show j = 0 ∨ j = 1 ∨ j = 2 by omega) with rfl | rfl | rfl <;> rfl, rfl⟩
theorem cl_X2_9 : Cond.classLink RX2 9 RX1 ∈ lw_all := lw_mem 149 (by decide +kernel) rfl
theorem nw_X2_9 : NW RX2 9 1 [.null, .null, .null, .null, .int 0, .int 0, .int 0] := ⟨RX1, TX1, 7, tyX1, rfl, in_X1, tyX1_ok, cl_X2_9, lw_mem 66 (by decide +kernel) rfl, lw_mem 50 (by decide +kernel) rfl, fun j hj => by rcases (show j = 0 ∨ j = 1 ∨ j = 2 ∨ j = 3 ∨ j = 4 ∨ j = 5 ∨ j = 6 by omega) with rfl | rfl | rfl | rfl | rfl | rfl | rfl <;> rfl, rfl⟩
theorem cl_X5_23 : Cond.classLink RX5 23 RX0 ∈ lw_all := lw_mem 163 (by decide +kernel) rfl
theorem nw_X5_23 : NW RX5 23 0 [.null, .int 0, .int 0, .int 0, .int 0, .int 0] := ⟨RX0, TX0, 6, tyX0, rfl, in_X0, tyX0_ok, cl_X5_23, lw_mem 164 (by decide +kernel) rfl, lw_mem 53 (by decide +kernel) rfl, fun j hj => by rcases (show j = 0 ∨ j = 1 ∨ j = 2 ∨ j = 3 ∨ j = 4 ∨ j = 5 by omega) with rfl | rfl | rfl | rfl | rfl | rfl <;> rfl, rfl⟩
theorem cl_X1_76 : Cond.classLink RX1 76 RX4 ∈ lw_all := lw_mem 292 (by decide +kernel) rfl
theorem nw_X1_76 : NW RX1 76 4 [.int 0, .int 0, .int 0] := ⟨RX4, TX4, 3, tyX4, rfl, in_X4, tyX4_ok, cl_X1_76, lw_mem 293 (by decide +kernel) rfl, lw_mem 56 (by decide +kernel) rfl, fun j hj => by rcases (show j = 0 ∨ j = 1 ∨ j = 2 by omega) with rfl | rfl | rfl <;> rfl, rfl⟩
theorem cl_L_10 : Cond.classLink RL 10 RX6 ∈ lw_all := lw_mem 595 (by decide +kernel) rfl
theorem nw_L_10 : NW RL 10 6 [.null, .null, .null, .int 0, .null, .int 0, .int 0, .int 0, .int 0, .int 0, .int 0] := ⟨RX6, TX6, 11, tyX6, rfl, in_X6, tyX6_ok, cl_L_10, lw_mem 596 (by decide +kernel) rfl, lw_mem 54 (by decide +kernel) rfl, fun j hj => by rcases (show j = 0 ∨ j = 1 ∨ j = 2 ∨ j = 3 ∨ j = 4 ∨ j = 5 ∨ j = 6 ∨ j = 7 ∨ j = 8 ∨ j = 9 ∨ j = 10 by omega) with rfl | rfl | rfl | rfl | rfl | rfl | rfl | rfl | rfl | rfl | rfl <;> rfl, rfl⟩
theorem ac_int : Cond.arrayClass .int ∈ lw_all := lw_mem 115 (by decide +kernel) rfl
theorem ac_boolean : Cond.arrayClass .boolean ∈ lw_all := lw_mem 114 (by decide +kernel) rfl
theorem ac_char : Cond.arrayClass .char ∈ lw_all := lw_mem 193 (by decide +kernel) rfl
theorem oi_inst : Cond.instanceMethod objectInit ∈ lw_all := lw_mem 63 (by decide +kernel) rfl
theorem oi_code : Cond.code objectInit ⟨#[0xb1]⟩ 1 none ∈ lw_all := lw_mem 64 (by decide +kernel) rfl
theorem mc_max : Cond.code Lib.Math.max.name Lib.Math.max.code 2 (some .int) ∈ lw_all := lw_mem 257 (by decide +kernel) rfl
theorem ms_max : Cond.static Lib.Math.max.name ∈ lw_all := lw_mem 256 (by decide +kernel) rfl
theorem mc_min : Cond.code Lib.Math.min.name Lib.Math.min.code 2 (some .int) ∈ lw_all := lw_mem 254 (by decide +kernel) rfl
theorem ms_min : Cond.static Lib.Math.min.name ∈ lw_all := lw_mem 253 (by decide +kernel) rfl
theorem mi_math : Cond.initialized "java/lang/Math" ∈ lw_all := lw_mem 55 (by decide +kernel) rfl
theorem ml_X1_125 : Cond.methodLink RX1 125 Lib.Math.min.name ∈ lw_all := lw_mem 252 (by decide +kernel) rfl
theorem ml_X1_131 : Cond.methodLink RX1 131 Lib.Math.max.name ∈ lw_all := lw_mem 255 (by decide +kernel) rfl
theorem ml_X5_197 : Cond.methodLink RX5 197 Lib.Math.min.name ∈ lw_all := lw_mem 564 (by decide +kernel) rfl
end
section
/-! what holds of the machine throughout: the classes, the array classes, the words of nest mates -/
abbrev GG : Type := va_G × (Nat → ClassId) × Nat
def gTys (G : GG) : List (ClassId × FieldType) := [(G.2.1 0, .int), (G.2.1 1, .boolean), (G.2.1 2, .char), (G.2.1 3, .object "WriteOnceDisc$Session"), (G.2.1 4, .object "WriteOnceDisc$StoredFile"), (G.2.1 5, .object "WriteOnceDisc$Disc")]
def Gk (G : GG) (U : State) : Prop := va_K G.1 vwCl (gTys G) U ∧ (va_AO "WriteOnceDisc$Session" U ∧ va_AO "WriteOnceDisc$StoredFile" U ∧ va_AO "WriteOnceDisc$Disc" U) ∧ ∀ w ∈ nestW, va_Nw w U
theorem nestW_warm {s U : State} (hW : s.WarmedH U.vm) : ∀ w ∈ nestW, va_Nw w s → va_Nw w U := by
  intro w hw
  simp only [nestW, List.mem_cons, List.not_mem_nil, or_false] at hw
  rcases hw with rfl | rfl | rfl | rfl | rfl | rfl | rfl <;> exact va_Nw.warmM hW
theorem nestW_same {s U : State} (h : s.vm = U.vm) : ∀ w ∈ nestW, va_Nw w s → va_Nw w U := by
  intro w hw
  simp only [nestW, List.mem_cons, List.not_mem_nil, or_false] at hw
  rcases hw with rfl | rfl | rfl | rfl | rfl | rfl | rfl <;> exact va_Nw.same rfl h
theorem Gk.warm {G : GG} {s U : State} (hW : s.WarmedH U.vm) (h : Gk G s) : Gk G U :=
  ⟨va_K.moved hW.alike h.1, ⟨h.2.1.1.moved hW.alike, h.2.1.2.1.moved hW.alike, h.2.1.2.2.moved hW.alike⟩, fun w hw => nestW_warm hW w hw (h.2.2 w hw)⟩
theorem Gk.same {G : GG} {s U : State} (e : s.vm = U.vm) (h : Gk G s) : Gk G U := by
  have ha : s.vm.Alike U.vm := e ▸ Vm.Alike.refl s.vm
  exact ⟨va_K.moved ha h.1, ⟨h.2.1.1.moved ha, h.2.1.2.1.moved ha, h.2.1.2.2.moved ha⟩, fun w hw => nestW_same e w hw (h.2.2 w hw)⟩
def Ob (G : GG) (a ci : Nat) (fs : List Value) (H : Heap) : Prop := va_at G.1 vwCl (a, .inr (ci, fs)) H
def Ia (G : GG) (a t n : Nat) (f : Nat → Int32) (H : Heap) : Prop := va_at G.1 vwCl (a, .inl (G.2.1 t, n, .inl f)) H
def Ra (G : GG) (a t n : Nat) (f : Nat → Option Nat) (H : Heap) : Prop := va_at G.1 vwCl (a, .inl (G.2.1 t, n, .inr (.inr (.inr (.inr f))))) H
/-- one cell alone has changed -/
def Fr1 (a : Nat) (H H1 : Heap) : Prop := H1.size = H.size ∧ ∀ q : Nat, q ≠ a → H1[q]? = H[q]?
/-- one cell has come -/
def Pu (H H1 : Heap) : Prop := H1.size = H.size + 1 ∧ ∀ q : Nat, q < H.size → H1[q]? = H[q]?
def Lk (G : GG) (locs : List Loc) : Prop := ∀ q ∈ locs, G.2.2 ≤ q.base
theorem Lk.nil {G : GG} : Lk G [] := fun _ h => by cases h
theorem Lk.app {G : GG} {l1 l2 : List Loc} (h1 : Lk G l1) (h2 : Lk G l2) : Lk G (l1 ++ l2) := fun q hq => (List.mem_append.mp hq).elim (h1 q) (h2 q)
theorem Lk.one {G : GG} {l1 : List Loc} {a k : Nat} (h1 : Lk G l1) (h2 : G.2.2 ≤ a) : Lk G (l1 ++ [⟨a, k⟩]) := h1.app (fun q hq => by rw [List.mem_singleton.mp hq]; exact h2)
theorem Ob.kept {G : GG} {a ci : Nat} {fs : List Value} {H H1 : Heap} (h : Ob G a ci fs H) (e : H1[a]? = H[a]?) : Ob G a ci fs H1 := va_at.kept h e
theorem Ia.kept {G : GG} {a t n : Nat} {f : Nat → Int32} {H H1 : Heap} (h : Ia G a t n f H) (e : H1[a]? = H[a]?) : Ia G a t n f H1 := va_at.kept h e
theorem Ra.kept {G : GG} {a t n : Nat} {f : Nat → Option Nat} {H H1 : Heap} (h : Ra G a t n f H) (e : H1[a]? = H[a]?) : Ra G a t n f H1 := va_at.kept h e
theorem Ob.lt {G : GG} {a ci : Nat} {fs : List Value} {H : Heap} (h : Ob G a ci fs H) : a < H.size := va_at.lt h
theorem Ia.lt {G : GG} {a t n : Nat} {f : Nat → Int32} {H : Heap} (h : Ia G a t n f H) : a < H.size := va_at.lt h
theorem Ra.lt {G : GG} {a t n : Nat} {f : Nat → Option Nat} {H : Heap} (h : Ra G a t n f H) : a < H.size := va_at.lt h
theorem arrV_congr {cA : ClassId} {N : Nat} {f g : Nat → Value} (h : ∀ j, j < N → f j = g j) : arrV cA N f = arrV cA N g := by
  unfold arrV
  congr 1
  apply Array.ext
  · simp
  · intro i h1 h2
    simp at h1
    simp [h i h1]
theorem Ia.to {G : GG} {a t n : Nat} {f g : Nat → Int32} {H : Heap} (h : Ia G a t n f H) (e : ∀ j, j < n → f j = g j) : Ia G a t n g H := by
  have h1 : H[a]? = some (vp_cell (G.2.1 t) (n, .inl f)) := h
  show H[a]? = some (vp_cell (G.2.1 t) (n, .inl g))
  rw [h1, vp_cell_i, vp_cell_i]
  exact congrArg some (arrV_congr fun j hj => by rw [e j hj])
theorem Ra.to {G : GG} {a t n : Nat} {f g : Nat → Option Nat} {H : Heap} (h : Ra G a t n f H) (e : ∀ j, j < n → f j = g j) : Ra G a t n g H := by
  have h1 : H[a]? = some (vp_cell (G.2.1 t) (n, .inr (.inr (.inr (.inr f))))) := h
  show H[a]? = some (vp_cell (G.2.1 t) (n, .inr (.inr (.inr (.inr g)))))
  rw [h1, vp_cell_q, vp_cell_q]
  exact congrArg some (arrV_congr fun j hj => by rw [e j hj])
/-- what a method's walk stands on -/
def En (G : GG) (p : Program) (s : State) (m : MethodId) (args : Array Value) (meth : Method) (c : Code) (cc : ByteArray) (n : Nat) (ret : Option FieldType) (own : String) : Prop :=
  p.tables.exec = Jvm.exec ∧ c.code = cc ∧ c.maxLocals = n ∧ meth.sig.returnType = ret ∧ (∀ w ∈ lw_all, w.before args s = true) ∧ s.vm.findClass own = some m.cls ∧ meth.locks = false ∧ Gk G s
/-- a method's contract -/
def Ct (G : GG) (l : Launch) (y : MethodName) (b : ByteArray) (n : Nat) (ret : Option FieldType) (rm : Room) (av : List Value) (Pre : Heap → Prop) (Post : Option Value → Heap → Heap → Prop) : Prop :=
  Met l y (.code y b n ret :: lw_all) rm (fun a U => a = av.toArray ∧ Gk G U ∧ Pre U.heap) (fun _ st o t => ∃ v, o = .returned v ∧ Post v st.heap t.heap) rm.cells rm.slots (fun q => G.2.2 ≤ q)
def PI (P : Int32 → Heap → Heap → Prop) : Option Value → Heap → Heap → Prop := fun v H H1 => ∃ r, v = some (.int r) ∧ P r H H1
def PV (P : Heap → Heap → Prop) : Option Value → Heap → Heap → Prop := fun v H H1 => v = none ∧ P H H1
def PR (P : Option Nat → Heap → Heap → Prop) : Option Value → Heap → Heap → Prop := fun v H H1 => ∃ r, v = some (va_rf r) ∧ P r H H1
def QQ (G : GG) (below : List Frame) (args : Array Value) (s : State) (rm : Room) (Post : Option Value → Heap → Heap → Prop) : State → Prop := MQ below (fun _ st o t => ∃ v, o = .returned v ∧ Post v st.heap t.heap) args s rm.cells rm.slots (fun q => G.2.2 ≤ q)
/-- the start of a method's proof -/
theorem Ct.of {G : GG} {l : Launch} {y : MethodName} {b : ByteArray} {n : Nat} {ret : Option FieldType} {rm : Room} {av : List Value} {Pre : Heap → Prop} {Post : Option Value → Heap → Heap → Prop} (hy : plainName y.cls = true) (hn : (lg_sl av).length ≤ n)
    (body : ∀ p e s m args below meth c ls, En G p s m args meth c b n ret y.cls → meth.name = y.name → Pre s.heap → lv_has ls n (lv_args 0 av) → W p l e rm s m args below meth c s.heap [] 0 0 (QQ G below args s rm Post) (F0 m 0 ls [])) : Ct G l y b n ret rm av Pre Post := by
  refine Met.ofW (cc := b) (maxL := n) (ret := ret) hy rfl ?_
  intro p e s m args below meth c s₁ B hml hv
  obtain ⟨rfl, hG, hP⟩ := hv
  have hts := atoms_spec (ws := .code y b n ret :: lw_all) B.pre
  have hl := lv_entry av hn
  rw [lg_entry_eq]
  exact body p e s m _ below meth c _ ⟨B.exec, B.bytes, hml, B.returns, fun w hw => hts w (List.mem_cons_of_mem _ hw), findClass_of_methodNamed B.named, B.notSynchronized, hG⟩ (name_of_methodNamed B.named B.method).1 hP hl
section MR
variable {p : Program} {l : Launch} {e : Env} {R : Room} {s : State} {m : MethodId} {args : Array Value} {below : List Frame} {meth : Method} {c : Code} {H : Heap} {locs : List Loc} {cells slots : Nat} {Q : State → Prop}
variable {G : GG} {cc : ByteArray} {n : Nat} {ret : Option FieldType} {own : String} {pc : Nat} {ls : Array Slot} {st rest : List Value} {rm : Room} {Post : Option Value → Heap → Heap → Prop}
theorem e_iret (E : En G p s m args meth c cc n (some .int) own) (hL : Lk G locs) {v : Int32} (hdg : decode cc pc = .ok (.ireturn, 1)) (hp : Post (some (.int v)) s.heap H) : W p l e R s m args below meth c H locs rm.cells rm.slots (QQ G below args s rm Post) (F0 m pc ls [.int v]) :=
  W.iret E.1 E.2.1 E.2.2.2.1 (fun t ht _ => ⟨_, rfl, by rw [ht]; exact hp⟩) hL hdg E.2.2.2.2.2.2.1
theorem e_zret (E : En G p s m args meth c cc n (some .boolean) own) (hL : Lk G locs) {v : Int32} (hv : narrow .boolean (.int v) = .int v) (hdg : decode cc pc = .ok (.ireturn, 1)) (hp : Post (some (.int v)) s.heap H) : W p l e R s m args below meth c H locs rm.cells rm.slots (QQ G below args s rm Post) (F0 m pc ls [.int v]) :=
  W.zret E.1 E.2.1 E.2.2.2.1 hv (fun t ht _ => ⟨_, rfl, by rw [ht]; exact hp⟩) hL hdg E.2.2.2.2.2.2.1
theorem e_vret (E : En G p s m args meth c cc n none own) (hL : Lk G locs) (hdg : decode cc pc = .ok (.return_, 1)) (hp : Post none s.heap H) : W p l e R s m args below meth c H locs rm.cells rm.slots (QQ G below args s rm Post) (F0 m pc ls []) :=
  W.vret E.1 E.2.1 E.2.2.2.1 (fun t ht _ => ⟨_, rfl, by rw [ht]; exact hp⟩) hL hdg E.2.2.2.2.2.2.1
theorem e_aret {C : String} (E : En G p s m args meth c cc n (some (.object C)) own) (hL : Lk G locs) {r : Option Nat} (hdg : decode cc pc = .ok (.areturn, 1)) (hp : Post (some (va_rf r)) s.heap H) : W p l e R s m args below meth c H locs rm.cells rm.slots (QQ G below args s rm Post) (F0 m pc ls [va_rf r]) :=
  W.aret E.1 E.2.1 E.2.2.2.1 (Or.inl ⟨_, rfl⟩) (by cases r; exact Or.inl rfl; exact Or.inr ⟨_, rfl⟩) (fun t ht _ => ⟨_, rfl, by rw [ht]; exact hp⟩) hL hdg E.2.2.2.2.2.2.1
theorem va_P1 {D : va_G} {cl : List vw_C} {q : Nat × va_E} {H : Heap} (h : va_at D cl q H) : va_P D cl [q] H := fun k r hk => by
  have hz : k < 1 := (List.getElem?_eq_some_iff.mp hk).1
  rw [show k = 0 by omega] at hk
  cases hk
  exact h
theorem m_get (E : En G p s m args meth c cc n ret own) {idx ci k a : Nat} {fs : List Value} {v : Value} (hO : Ob G a ci fs H) (hf : FW own idx ci k) (hv : fs[k]? = some v) (hdg : decode cc pc = .ok (.getfield idx, 3))
    (kk : W p l e R s m args below meth c H locs cells slots Q (F0 m (pc + 3) ls (v :: rest))) : W p l e R s m args below meth c H locs cells slots Q (F0 m pc ls (.ref a :: rest)) := by
  obtain ⟨C, T, N, hc, hin, hk, hlk, hown2⟩ := hf
  refine va_get (D := G.1) (ci := ci) (v := v) (C := C) (ref := C) (T := T) (N := N) (index := idx) (tys := gTys G) (cl := vwCl) E.1 E.2.1 E.2.2.2.2.1 hin E.2.2.2.2.2.1 E.2.2.2.2.2.2.2.1 (va_P1 hO) 0 rfl hc k hk (E.2.2.2.2.1 _ hlk) (fun _ h9 => by rw [hown2] at h9; exact h9) hv hdg kk
theorem m_put (E : En G p s m args meth c cc n ret own) {idx ci k a : Nat} {fs : List Value} {v : Value} {ty : FieldType} (hO : Ob G a ci fs H) (hf : FW own idx ci k) (hp : FP ci k ty false) (hn : narrow ty v = v) (hfit : fits ty v = true) (hl : k < fs.length) (hL : Lk G locs) (ha : G.2.2 ≤ a) (hdg : decode cc pc = .ok (.putfield idx, 3))
    (kk : ∀ (H1 : Heap) (locs1 : List Loc), Lk G locs1 → Ob G a ci (fs.set k v) H1 → Fr1 a H H1 → W p l e R s m args below meth c H1 locs1 cells slots Q (F0 m (pc + 3) ls rest)) : W p l e R s m args below meth c H locs cells slots Q (F0 m pc ls (v :: .ref a :: rest)) := by
  obtain ⟨C, T, N, hc, hin, hk, hlk, hown2⟩ := hf
  obtain ⟨C', T', N', ty0, hc', -, -, hty, hnm, hd, hfin⟩ := hp
  cases hc.symm.trans hc'
  have hts := E.2.2.2.2.1
  have hK := E.2.2.2.2.2.2.2.1
  have hap := va_apart (own := own) hts hin ty0 hty hnm hK hc
  obtain ⟨r, h1, cell, q1, q2, q3, q4⟩ := hO
  have hr : r = (C, T, N) := Option.some.inj (h1.symm.trans hc)
  subst hr
  obtain ⟨hS, hfc, kC, hkC, hkind⟩ := hK.1 ci _ hc
  obtain ⟨cf, kf, fi, f, hi, hsl⟩ := hS k hk
  have hlay := hts _ (hin _ (u_in_lay hk))
  unfold u_lay at hlay
  rw [if_neg (by rw [hfin]; decide)] at hlay
  have hst := (u_facts hfc hkC (u_lays hts hin hk) hi).1
  have h6 := u_store hfc hkC hkind hlay hi hd hn hfit
  refine W.putK E.1 E.2.1 (f := f) ⟨E.2.2.2.2.2.1, hts _ hlk, ⟨_, _, _, by rw [← hown2]; exact hi⟩, hst⟩ (by rw [q2]; exact h6) q1 q3 (by rw [hsl]; exact k2_hasslot (q4 k hk)) rfl rfl hdg fun H' e1 e2 e3 => ?_
  rw [hsl] at e1 ⊢
  exact kk H' _ (hL.one ha) ⟨_, hc, t_OB.to (V := updV (vp_V fs) k v) ⟨_, e1, q2, q3, t_set q4 hap hk v⟩ (fun j _ => vp_updV_set hl v j)⟩ ⟨e2, e3⟩
theorem m_putF (E : En G p s m args meth c cc n ret own) {idx ci k a : Nat} {fs : List Value} {v : Value} {ty : FieldType} (hin2 : meth.name = "<init>") (hO : Ob G a ci fs H) (hf : FW own idx ci k) (hp : FP ci k ty true) (hn : narrow ty v = v) (hfit : fits ty v = true) (hl : k < fs.length) (hL : Lk G locs) (ha : G.2.2 ≤ a) (hoc : ∃ T N, vwCl[ci]? = some (own, T, N)) (hdg : decode cc pc = .ok (.putfield idx, 3))
    (kk : ∀ (H1 : Heap) (locs1 : List Loc), Lk G locs1 → Ob G a ci (fs.set k v) H1 → Fr1 a H H1 → W p l e R s m args below meth c H1 locs1 cells slots Q (F0 m (pc + 3) ls rest)) : W p l e R s m args below meth c H locs cells slots Q (F0 m pc ls (v :: .ref a :: rest)) := by
  obtain ⟨C, T, N, hc, hin, hk, hlk, hown2⟩ := hf
  obtain ⟨C', T', N', ty0, hc', -, -, hty, hnm, hd, hfin⟩ := hp
  cases hc.symm.trans hc'
  obtain ⟨T2, N2, hoc⟩ := hoc
  have hCo : C = own := by have := hc.symm.trans hoc; simp at this; exact this.1
  have hts := E.2.2.2.2.1
  have hown := E.2.2.2.2.2.1
  have hK := E.2.2.2.2.2.2.2.1
  have hap := va_apart (own := own) hts hin ty0 hty hnm hK hc
  obtain ⟨r, h1, cell, q1, q2, q3, q4⟩ := hO
  have hr : r = (C, T, N) := Option.some.inj (h1.symm.trans hc)
  subst hr
  obtain ⟨hS, hfc, kC, hkC, hkind⟩ := hK.1 ci _ hc
  obtain ⟨cf, kf, fi, f, hi, hsl⟩ := hS k hk
  have hlay := hts _ (hin _ (u_in_lay hk))
  unfold u_lay at hlay
  rw [if_pos hfin] at hlay
  have hst := (u_facts hfc hkC (u_lays hts hin hk) hi).1
  have hcf : m.cls = cf := by
    obtain ⟨_, _, c', _, _, _, -, -, hf', -, -, -, hown3, -⟩ := Cond.laysFinal_spec hlay
    have e1 : c' = cf := by have := hi.symm.trans hf'; simp at this; exact this.1.symm
    rw [hown2, hCo] at hown3
    rw [← e1]; exact Option.some.inj (hown.symm.trans hown3)
  have h6 := u_fits hfc hkC hkind (Or.inr hlay) hi hd hn hfit
  refine W.putFinK E.1 E.2.1 hown (hts _ hlk) (by rw [← hown2]; exact hi) hst hcf hin2 (by rw [q2]; exact h6) q1 q3 (by rw [hsl]; exact k2_hasslot (q4 k hk)) rfl rfl hdg fun H' e1 e2 e3 => ?_
  rw [hsl] at e1 ⊢
  exact kk H' _ (hL.one ha) ⟨_, hc, t_OB.to (V := updV (vp_V fs) k v) ⟨_, e1, q2, q3, t_set q4 hap hk v⟩ (fun j _ => vp_updV_set hl v j)⟩ ⟨e2, e3⟩
/-! arrays -/
theorem m_iald (E : En G p s m args meth c cc n ret own) {a N : Nat} {f : Nat → Int32} (hO : Ia G a 0 N f H) {i : Int32} (hin : vp_in i N) (hdg : decode cc pc = .ok (.iaload, 1))
    (kk : W p l e R s m args below meth c H locs cells slots Q (F0 m (pc + 1) ls (.int (f i.toNatClampNeg) :: rest))) : W p l e R s m args below meth c H locs cells slots Q (F0 m pc ls (.int i :: .ref a :: rest)) :=
  va_iald E.1 E.2.1 E.2.2.2.2.2.2.2.1 (va_P1 hO) 0 0 rfl rfl hin hdg kk
theorem m_zald (E : En G p s m args meth c cc n ret own) {a N : Nat} {f : Nat → Int32} (hO : Ia G a 1 N f H) {i : Int32} (hin : vp_in i N) (hdg : decode cc pc = .ok (.baload, 1))
    (kk : W p l e R s m args below meth c H locs cells slots Q (F0 m (pc + 1) ls (.int (f i.toNatClampNeg) :: rest))) : W p l e R s m args below meth c H locs cells slots Q (F0 m pc ls (.int i :: .ref a :: rest)) :=
  va_zald E.1 E.2.1 E.2.2.2.2.2.2.2.1 (va_P1 hO) 0 1 rfl rfl hin hdg kk
theorem m_cald (E : En G p s m args meth c cc n ret own) {a N : Nat} {f : Nat → Int32} (hO : Ia G a 2 N f H) {i : Int32} (hin : vp_in i N) (hdg : decode cc pc = .ok (.caload, 1))
    (kk : W p l e R s m args below meth c H locs cells slots Q (F0 m (pc + 1) ls (.int (f i.toNatClampNeg) :: rest))) : W p l e R s m args below meth c H locs cells slots Q (F0 m pc ls (.int i :: .ref a :: rest)) :=
  va_cald E.1 E.2.1 E.2.2.2.2.2.2.2.1 (va_P1 hO) 0 2 rfl rfl hin hdg kk
theorem m_aald (E : En G p s m args meth c cc n ret own) {a N t : Nat} {f : Nat → Option Nat} {C : String} (hO : Ra G a t N f H) (ht : (gTys G)[t]? = some (G.2.1 t, .object C)) {i : Int32} (hin : vp_in i N) (hdg : decode cc pc = .ok (.aaload, 1))
    (kk : W p l e R s m args below meth c H locs cells slots Q (F0 m (pc + 1) ls (va_rf (f i.toNatClampNeg) :: rest))) : W p l e R s m args below meth c H locs cells slots Q (F0 m pc ls (.int i :: .ref a :: rest)) :=
  va_aldq E.1 E.2.1 E.2.2.2.2.2.2.2.1 (va_P1 hO) 0 t rfl ht hin hdg kk
theorem m_iast (E : En G p s m args meth c cc n ret own) {a N : Nat} {f : Nat → Int32} (hO : Ia G a 0 N f H) {i x : Int32} (hin : vp_in i N) (hL : Lk G locs) (ha : G.2.2 ≤ a) (hdg : decode cc pc = .ok (.iastore, 1))
    (kk : ∀ (H1 : Heap) (locs1 : List Loc), Lk G locs1 → Ia G a 0 N (upd f i.toNatClampNeg x) H1 → Fr1 a H H1 → W p l e R s m args below meth c H1 locs1 cells slots Q (F0 m (pc + 1) ls rest)) : W p l e R s m args below meth c H locs cells slots Q (F0 m pc ls (.int x :: .int i :: .ref a :: rest)) := by
  have hK := E.2.2.2.2.2.2.2.1
  have hO' : H[a]? = some (vp_cell (G.2.1 0) (N, .inl f)) := hO
  refine W.iast E.1 E.2.1 hO' ((hK.2 0 _ rfl).1 N (fun j => .int (f j))) (fun q => by cases q) (by show ¬ (i < 0 ∨ (arrV _ _ _).slots.size ≤ _); rw [arrV_size]; exact hin) rfl rfl hdg fun H1 e z oq => ?_
  refine kk H1 _ (hL.one ha) ?_ ⟨z, oq⟩
  show H1[a]? = some (vp_cell _ _)
  rw [e, vp_cell_i, vp_cell_i, arrV_store]
  congr 2
  funext q
  by_cases hq : q = i.toNatClampNeg
  · subst hq
    simp [updV, upd]
  · simp [updV, upd, hq]
theorem m_zast (E : En G p s m args meth c cc n ret own) {a N : Nat} {f : Nat → Int32} (hO : Ia G a 1 N f H) {i x : Int32} (hin : vp_in i N) (hL : Lk G locs) (ha : G.2.2 ≤ a) (hdg : decode cc pc = .ok (.bastore, 1))
    (kk : ∀ (H1 : Heap) (locs1 : List Loc), Lk G locs1 → Ia G a 1 N (upd f i.toNatClampNeg (vp_nar .boolean x)) H1 → Fr1 a H H1 → W p l e R s m args below meth c H1 locs1 cells slots Q (F0 m (pc + 1) ls rest)) : W p l e R s m args below meth c H locs cells slots Q (F0 m pc ls (.int x :: .int i :: .ref a :: rest)) := by
  have hK := E.2.2.2.2.2.2.2.1
  have hO' : H[a]? = some (vp_cell (G.2.1 1) (N, .inl f)) := hO
  refine W.zast E.1 E.2.1 hO' ((hK.2 1 _ rfl).1 N (fun j => .int (f j))) (fun q => by cases q) (by show ¬ (i < 0 ∨ (arrV _ _ _).slots.size ≤ _); rw [arrV_size]; exact hin) rfl rfl hdg fun H1 e z oq => ?_
  refine kk H1 _ (hL.one ha) ?_ ⟨z, oq⟩
  show H1[a]? = some (vp_cell _ _)
  rw [e, vp_cell_i, vp_cell_i, arrV_store]
  congr 2
  funext q
  by_cases hq : q = i.toNatClampNeg
  · subst hq
    simp [updV, upd, vp_nar]
    try rfl
  · simp [updV, upd, hq]
theorem m_cast (E : En G p s m args meth c cc n ret own) {a N : Nat} {f : Nat → Int32} (hO : Ia G a 2 N f H) {i x : Int32} (hin : vp_in i N) (hL : Lk G locs) (ha : G.2.2 ≤ a) (hdg : decode cc pc = .ok (.castore, 1))
    (kk : ∀ (H1 : Heap) (locs1 : List Loc), Lk G locs1 → Ia G a 2 N (upd f i.toNatClampNeg (vp_nar .char x)) H1 → Fr1 a H H1 → W p l e R s m args below meth c H1 locs1 cells slots Q (F0 m (pc + 1) ls rest)) : W p l e R s m args below meth c H locs cells slots Q (F0 m pc ls (.int x :: .int i :: .ref a :: rest)) := by
  have hK := E.2.2.2.2.2.2.2.1
  have hO' : H[a]? = some (vp_cell (G.2.1 2) (N, .inl f)) := hO
  refine W.cast E.1 E.2.1 hO' ((hK.2 2 _ rfl).1 N (fun j => .int (f j))) (fun q => by cases q) (by show ¬ (i < 0 ∨ (arrV _ _ _).slots.size ≤ _); rw [arrV_size]; exact hin) rfl rfl hdg fun H1 e z oq => ?_
  refine kk H1 _ (hL.one ha) ?_ ⟨z, oq⟩
  show H1[a]? = some (vp_cell _ _)
  rw [e, vp_cell_i, vp_cell_i, arrV_store]
  congr 2
  funext q
  by_cases hq : q = i.toNatClampNeg
  · subst hq
    simp [updV, upd, vp_nar]
    try rfl
  · simp [updV, upd, hq]
theorem m_aast (E : En G p s m args meth c cc n ret own) {a N t ci v : Nat} {f : Nat → Option Nat} {vs : List Value} {r : vw_C} (hO : Ra G a t N f H) (ht : (gTys G)[t]? = some (G.2.1 t, .object r.1)) (hv : Ob G v ci vs H) (hc : vwCl[ci]? = some r) {i : Int32} (hin : vp_in i N) (hL : Lk G locs) (ha : G.2.2 ≤ a) (hdg : decode cc pc = .ok (.aastore, 1))
    (kk : ∀ (H1 : Heap) (locs1 : List Loc), Lk G locs1 → Ra G a t N (va_up f i.toNatClampNeg (some v)) H1 → Fr1 a H H1 → W p l e R s m args below meth c H1 locs1 cells slots Q (F0 m (pc + 1) ls rest)) : W p l e R s m args below meth c H locs cells slots Q (F0 m pc ls (.ref v :: .int i :: .ref a :: rest)) := by
  have hK := E.2.2.2.2.2.2.2.1
  have hO' : H[a]? = some (vp_cell (G.2.1 t) (N, .inr (.inr (.inr (.inr f))))) := hO
  have hlt : i.toNatClampNeg < N := Nat.not_le.mp fun q => hin (Or.inr q)
  have h0 : ¬ i < 0 := fun q => hin (Or.inl q)
  obtain ⟨r', hr', cellV, g1, g2, g3, -⟩ := hv
  have hcls := (hK.1 ci r hc).2
  obtain ⟨kA, comp, k1, k2, k3, -⟩ := (hK.2 t _ ht).2
  have hcomp : comp = G.1.1 ci := Option.some.inj (k3.symm.trans hcls.1)
  subst hcomp
  obtain ⟨kC, hkC, -⟩ := hcls.2
  refine W.aast E.1 E.2.1 hO' (fun q h => by cases h) (fun h => by cases h) k1 k2 rfl hkC ⟨h0, by show _ < (arrV _ _ _).slots.size; rw [arrV_size]; exact hlt⟩ g1 (fun q h => by rw [g3] at h; cases h) (by rw [g2]; exact hkC) (by rw [g2]; exact va_assign hcls) rfl rfl hdg fun H1 e z oq => ?_
  refine kk H1 _ (hL.one ha) ?_ ⟨z, oq⟩
  show H1[a]? = some (vp_cell _ _)
  rw [e, vp_cell_q, vp_cell_q, arrV_store]
  congr 2
  funext q
  by_cases hq : q = i.toNatClampNeg
  · subst hq
    simp [updV, va_up, va_rf]
  · simp [updV, va_up, hq]
theorem m_aastN (E : En G p s m args meth c cc n ret own) {a N t : Nat} {f : Nat → Option Nat} {C : String} (hO : Ra G a t N f H) (ht : (gTys G)[t]? = some (G.2.1 t, .object C)) {i : Int32} (hin : vp_in i N) (hL : Lk G locs) (ha : G.2.2 ≤ a) (hdg : decode cc pc = .ok (.aastore, 1))
    (kk : ∀ (H1 : Heap) (locs1 : List Loc), Lk G locs1 → Ra G a t N (va_up f i.toNatClampNeg none) H1 → Fr1 a H H1 → W p l e R s m args below meth c H1 locs1 cells slots Q (F0 m (pc + 1) ls rest)) : W p l e R s m args below meth c H locs cells slots Q (F0 m pc ls (.null :: .int i :: .ref a :: rest)) := by
  have hK := E.2.2.2.2.2.2.2.1
  have hO' : H[a]? = some (vp_cell (G.2.1 t) (N, .inr (.inr (.inr (.inr f))))) := hO
  refine va_WaastN (C := C) E.1 E.2.1 hO' ((hK.2 t _ ht).1 N (fun j => va_rf (f j))) (fun h => by cases h) (by show ¬ (i < 0 ∨ (arrV _ _ _).slots.size ≤ _); rw [arrV_size]; exact hin) rfl rfl hdg fun H1 e z oq => ?_
  refine kk H1 _ (hL.one ha) ?_ ⟨z, oq⟩
  show H1[a]? = some (vp_cell _ _)
  rw [e, vp_cell_q, vp_cell_q, arrV_store]
  congr 2
  funext q
  by_cases hq : q = i.toNatClampNeg
  · subst hq
    simp [updV, va_up, va_rf]
  · simp [updV, va_up, hq]
/-- a reference that may be null is stored -/
theorem m_aastQ (E : En G p s m args meth c cc n ret own) {a N t ci : Nat} {f : Nat → Option Nat} {v : Option Nat} {r : vw_C} (hO : Ra G a t N f H) (ht : (gTys G)[t]? = some (G.2.1 t, .object r.1)) (hv : ∀ q, v = some q → ∃ vs, Ob G q ci vs H) (hc : vwCl[ci]? = some r) {i : Int32} (hin : vp_in i N) (hL : Lk G locs) (ha : G.2.2 ≤ a) (hdg : decode cc pc = .ok (.aastore, 1))
    (kk : ∀ (H1 : Heap) (locs1 : List Loc), Lk G locs1 → Ra G a t N (va_up f i.toNatClampNeg v) H1 → Fr1 a H H1 → W p l e R s m args below meth c H1 locs1 cells slots Q (F0 m (pc + 1) ls rest)) : W p l e R s m args below meth c H locs cells slots Q (F0 m pc ls (va_rf v :: .int i :: .ref a :: rest)) := by
  cases v with
  | none => exact m_aastN E hO ht hin hL ha hdg kk
  | some q =>
    obtain ⟨vs, hq⟩ := hv q rfl
    exact m_aast E hO ht hq hc hin hL ha hdg kk
/-! new objects and arrays -/
theorem m_new (E : En G p s m args meth c cc n ret own) {idx ci : Nat} {fs : List Value} (hw : NW own idx ci fs) (hcells : cells + 1 ≤ R.cells) (hslots : slots + fs.length ≤ R.slots) (hdg : decode cc pc = .ok (.new idx, 3))
    (kk : ∀ (H1 : Heap), Ob G H.size ci fs H1 → Pu H H1 → W p l e R s m args below meth c H1 locs (cells + 1) (slots + fs.length) Q (F0 m (pc + 3) ls (.ref H.size :: rest))) : W p l e R s m args below meth c H locs cells slots Q (F0 m pc ls rest) := by
  obtain ⟨C, T, N, ty, hc, hin, hty, hcl, hinst, hini, hfs, hlen⟩ := hw
  have hts := E.2.2.2.2.1
  have hKn := E.2.2.2.2.2.2.2.1.1 ci _ hc
  rw [hlen] at hslots kk
  refine W.newcK E.1 E.2.1 E.2.2.2.2.2.1 (hts _ hcl) (hts _ hinst) (hts _ hini) rfl hdg hcells hslots hKn.2.1 rfl fun H1 kC hkC e1 z1 o1 => ?_
  exact kk H1 ⟨_, hc, (u_born ty hts hin hKn hkC e1 hty).to hfs⟩ ⟨z1, o1⟩
theorem m_newi (E : En G p s m args meth c cc n ret own) {t : Nat} {atype : ArrayType} (hw : Cond.arrayClass (newarray.typeOf atype) ∈ lw_all) (hd : defaultValue (newarray.typeOf atype) = .int 0) (ht : (gTys G)[t]? = some (G.2.1 t, newarray.typeOf atype)) (hRA : ∀ (U : State) (cA : ClassId), va_RA U cA (newarray.typeOf atype) = (U.vm.findClass ("[" ++ (newarray.typeOf atype).toString) = some cA)) {x : Int32} {N : Nat} (hn : ¬ x < 0) (hN : x.toNatClampNeg = N) (hbytes : N * componentBytes (newarray.typeOf atype) ≤ 536870912) (hcells : cells + 1 ≤ R.cells) (hslots : slots + N ≤ R.slots) (hdg : decode cc pc = .ok (.newarray atype, 2))
    (kk : ∀ (H1 : Heap), Ia G H.size t N (fun _ => 0) H1 → Pu H H1 → W p l e R s m args below meth c H1 locs (cells + 1) (slots + N) Q (F0 m (pc + 2) ls (.ref H.size :: rest))) : W p l e R s m args below meth c H locs cells slots Q (F0 m pc ls (.int x :: rest)) := by
  have hts := E.2.2.2.2.1
  refine va_newaK E.1 E.2.1 (hts _ hw) rfl hdg rfl hn hN hbytes hcells hslots rfl fun H1 cA e1 z1 o1 hAr hNm => ?_
  have h2 := (E.2.2.2.2.2.2.2.1.2 t _ ht).2
  rw [hRA] at h2
  have hcA : cA = G.2.1 t := Option.some.inj (hNm.symm.trans h2)
  subst hcA
  refine kk H1 ?_ ⟨z1, o1⟩
  show H1[H.size]? = some (vp_cell _ _)
  rw [e1, vp_cell_i, hd]
theorem m_newq (E : En G p s m args meth c cc n ret own) {t idx : Nat} {C : String} (hw : Cond.classLink own idx C ∈ lw_all) (hover : va_AO C s) (ht : (gTys G)[t]? = some (G.2.1 t, .object C)) {x : Int32} {N : Nat} (hn : ¬ x < 0) (hN : x.toNatClampNeg = N) (hbytes : N * 4 ≤ 536870912) (hcells : cells + 1 ≤ R.cells) (hslots : slots + N ≤ R.slots) (hdg : decode cc pc = .ok (.anewarray idx, 3))
    (kk : ∀ (H1 : Heap), Ra G H.size t N (fun _ => none) H1 → Pu H H1 → W p l e R s m args below meth c H1 locs (cells + 1) (slots + N) Q (F0 m (pc + 3) ls (.ref H.size :: rest))) : W p l e R s m args below meth c H locs cells slots Q (F0 m pc ls (.int x :: rest)) := by
  subst hN
  have hts := E.2.2.2.2.1
  refine W.anew E.1 E.2.1 E.2.2.2.2.2.1 (hts _ hw) (va_AO.use hover) rfl hdg rfl hn hbytes hcells hslots fun cA kA comp f1 f2 f3 f4 => ?_
  generalize hH1 : H.push ({ cls := cA, slots := Array.replicate x.toNatClampNeg .null, vm := .none } : Cell) = H1
  have z1 : H1.size = H.size + 1 := by rw [← hH1, Array.size_push]
  have e1 : H1[H.size]? = some (arrV cA x.toNatClampNeg (fun _ => .null)) := by rw [← hH1, Array.getElem?_push_size, ← arrV_new]
  have o1 : ∀ q : Nat, q < H.size → H1[q]? = H[q]? := fun q hq => by rw [← hH1, Array.getElem?_push, if_neg (Nat.ne_of_lt hq)]
  obtain ⟨kA', comp', k1, k2, k3, k4⟩ := (E.2.2.2.2.2.2.2.1.2 t _ ht).2
  have hcA : cA = G.2.1 t := Option.some.inj (f1.symm.trans k4)
  subst hcA
  refine kk H1 ?_ ⟨z1, o1⟩
  show H1[H.size]? = some (vp_cell _ _)
  rw [vp_cell_q]
  exact e1
/-! calls -/
theorem m_fix (E : En G p s m args meth c cc n ret own) : CallFix p m c cc n s args lw_all own := ⟨E.1, E.2.1, E.2.2.1, E.2.2.2.2.2.1, E.2.2.2.2.1⟩
theorem m_blind {av : List Value} {Pre : Heap → Prop} : FrameBlind (fun a U => a = av.toArray ∧ Gk G U ∧ Pre U.heap) := fun a U g mk h => ⟨h.1, Gk.same (s := U) (U := U.calling g mk a) rfl h.2.1, h.2.2⟩
theorem m_run {rm' : Room} {av : List Value} {Pre : Heap → Prop} {Po : Option Value → Heap → Heap → Prop} {st0 : List Value}
    (hr : va_Run p l e R s m args below meth c H locs cells slots rm'.cells rm'.slots (F0 m pc ls st0) rest (fun st o t => ∃ v, o = .returned v ∧ Po v st.heap t.heap) (fun q => G.2.2 ≤ q)) (hL : Lk G locs)
    (kk : ∀ (v : Option Value) (H1 : Heap) (locs1 : List Loc), Lk G locs1 → Po v H H1 → W p l e R s m args below meth c H1 locs1 (cells + rm'.cells) (slots + rm'.slots) Q (F0 m (pc + 3) ls (v.toList ++ rest))) : W p l e R s m args below meth c H locs cells slots Q (F0 m pc ls st0) := by
  intro T hT X
  obtain ⟨v, st₀, t, T', L, h0, X', hL2, e1, e2, ⟨v', hv, hp⟩, st⟩ := hr T hT X
  cases hv
  rw [h0, ← e1] at hp
  obtain ⟨t2, a1, b1⟩ := kk v T'.heap (locs ++ L) (hL.app hL2) hp T' rfl X'
  exact ⟨t2, st t2 a1, b1⟩
theorem m_cb {y : MethodName} {b : ByteArray} {mL k idx : Nat} {ret' : Option FieldType} {rm' : Room} (E : En G p s m args meth c cc n ret own) (hC : CB y b mL ret' k) (hlk : (Cond.methodLink own idx y).before args s = true) (hR : rm'.frames + 1 ≤ R.frames ∧ 8 + (mL + 11) + rm'.locals ≤ R.locals) : CallB R s args own idx y b mL ret' (.code y b mL ret' :: lw_all) rm' rm'.cells rm'.slots k :=
  callB_of k E.2.2.2.2.1 (lw_goodc hC.1) rfl rfl rfl (E.2.2.2.2.1 _ hC.2.1) hlk ⟨hC.2.2.1.1, hC.2.2.1.2, hC.2.2.2⟩ hR
theorem m_recv (E : En G p s m args meth c cc n ret own) {a ci : Nat} {fs : List Value} {C : String} (hO : Ob G a ci fs H) (hc : ∃ T N, vwCl[ci]? = some (C, T, N)) : ∃ cell : Cell, H[a]? = some cell ∧ cell.vm.isStatics = false ∧ s.vm.findClass C = some cell.cls := by
  obtain ⟨T, N, hc⟩ := hc
  exact va_recv (q := (C, T, N)) E.2.2.2.2.2.2.2.1 (va_P1 hO) hc (q0 := 0) rfl
theorem m_callV (E : En G p s m args meth c cc n ret own) {y : MethodName} {b : ByteArray} {mL k idx a ci : Nat} {ret' : Option FieldType} {rm' : Room} {As fs : List Value} {Pre : Heap → Prop} {Po : Option Value → Heap → Heap → Prop} (hC : CWV own idx y b mL ret' k) (hM : Ct G l y b mL ret' rm' (.ref a :: As) Pre Po) (hO : Ob G a ci fs H) (hc : ∃ T N, vwCl[ci]? = some (y.cls, T, N)) (hp : Pre H) (hL : Lk G locs) (hls : ls.size = n) (hst : st = As.reverse ++ .ref a :: rest) (hk : As.length = k) (hW : (rest.map fun v => v.category).sum ≤ 8) (hR : rm'.frames + 1 ≤ R.frames ∧ 8 + (mL + 11) + rm'.locals ≤ R.locals) (hf : cells + rm'.cells ≤ R.cells ∧ slots + rm'.slots ≤ R.slots) (hdg : decode cc pc = .ok (.invokevirtual idx, 3))
    (kk : ∀ (v : Option Value) (H1 : Heap) (locs1 : List Loc), Lk G locs1 → Po v H H1 → W p l e R s m args below meth c H1 locs1 (cells + rm'.cells) (slots + rm'.slots) Q (F0 m (pc + 3) ls (v.toList ++ rest))) : W p l e R s m args below meth c H locs cells slots Q (F0 m pc ls st) :=
  m_run (av := []) (Pre := Pre) (va_runV (m_fix E) hM ⟨m_cb E hC.1 (E.2.2.2.2.1 _ hC.2.1) hR, E.2.2.2.2.1 _ hC.2.2.1, E.2.2.2.2.1 _ hC.2.2.2⟩ ⟨m_blind, m_recv E hO hc, fun U hU hW => ⟨rfl, Gk.warm hW E.2.2.2.2.2.2.2, by rw [hU]; exact hp⟩⟩ rfl hk hls hst (lv_room hW) hdg hf) hL kk
theorem m_callS (E : En G p s m args meth c cc n ret own) {y : MethodName} {b : ByteArray} {mL k idx : Nat} {ret' : Option FieldType} {rm' : Room} {As : List Value} {Pre : Heap → Prop} {Po : Option Value → Heap → Heap → Prop} (hC : CWS own idx y b mL ret' k) (hM : Ct G l y b mL ret' rm' As Pre Po) (hp : Pre H) (hL : Lk G locs) (hls : ls.size = n) (hst : st = As.reverse ++ rest) (hk : As.length = k) (hW : (rest.map fun v => v.category).sum ≤ 8) (hR : rm'.frames + 1 ≤ R.frames ∧ 8 + (mL + 11) + rm'.locals ≤ R.locals) (hf : cells + rm'.cells ≤ R.cells ∧ slots + rm'.slots ≤ R.slots) (hdg : decode cc pc = .ok (.invokestatic idx, 3))
    (kk : ∀ (v : Option Value) (H1 : Heap) (locs1 : List Loc), Lk G locs1 → Po v H H1 → W p l e R s m args below meth c H1 locs1 (cells + rm'.cells) (slots + rm'.slots) Q (F0 m (pc + 3) ls (v.toList ++ rest))) : W p l e R s m args below meth c H locs cells slots Q (F0 m pc ls st) :=
  m_run (av := []) (Pre := Pre) (va_runS (m_fix E) hM ⟨m_cb E hC.1 (E.2.2.2.2.1 _ hC.2.1) hR, E.2.2.2.2.1 _ hC.2.2⟩ ⟨m_blind, fun U hU hW => ⟨rfl, Gk.warm hW E.2.2.2.2.2.2.2, by rw [hU]; exact hp⟩⟩ rfl hk hls hst (lv_room hW) hdg hf) hL kk
theorem m_callI (E : En G p s m args meth c cc n ret own) {y : MethodName} {b : ByteArray} {mL k idx a : Nat} {rm' : Room} {As : List Value} {Pre : Heap → Prop} {Po : Option Value → Heap → Heap → Prop} (hC : CWI own idx y b mL k) (hM : Ct G l y b mL none rm' (.ref a :: As) Pre Po) (hp : Pre H) (hL : Lk G locs) (hls : ls.size = n) (hst : st = As.reverse ++ .ref a :: rest) (hk : As.length = k) (hW : (rest.map fun v => v.category).sum ≤ 8) (hR : rm'.frames + 1 ≤ R.frames ∧ 8 + (mL + 11) + rm'.locals ≤ R.locals) (hf : cells + rm'.cells ≤ R.cells ∧ slots + rm'.slots ≤ R.slots) (hdg : decode cc pc = .ok (.invokespecial idx, 3))
    (kk : ∀ (v : Option Value) (H1 : Heap) (locs1 : List Loc), Lk G locs1 → Po v H H1 → W p l e R s m args below meth c H1 locs1 (cells + rm'.cells) (slots + rm'.slots) Q (F0 m (pc + 3) ls (v.toList ++ rest))) : W p l e R s m args below meth c H locs cells slots Q (F0 m pc ls st) :=
  m_run (av := []) (Pre := Pre) (va_runI (m_fix E) hM ⟨m_cb E hC.1 (E.2.2.2.2.1 _ hC.2.1) hR, hC.2.2.2, E.2.2.2.2.1 _ hC.2.2.1⟩ ⟨m_blind, fun U hU hW => ⟨rfl, Gk.warm hW E.2.2.2.2.2.2.2, by rw [hU]; exact hp⟩⟩ rfl hk hls hst (lv_room hW) hdg hf) hL kk
theorem m_callSN (E : En G p s m args meth c cc n ret own) {y : MethodName} {b : ByteArray} {mL k idx : Nat} {ret' : Option FieldType} {rm' : Room} {As : List Value} {Pre : Heap → Prop} {Po : Option Value → Heap → Heap → Prop} (hC : CWSN nestW own idx y b mL ret' k) (hM : Ct G l y b mL ret' rm' As Pre Po) (hp : Pre H) (hL : Lk G locs) (hls : ls.size = n) (hst : st = As.reverse ++ rest) (hk : As.length = k) (hW : (rest.map fun v => v.category).sum ≤ 8) (hR : rm'.frames + 1 ≤ R.frames ∧ 8 + (mL + 11) + rm'.locals ≤ R.locals) (hf : cells + rm'.cells ≤ R.cells ∧ slots + rm'.slots ≤ R.slots) (hdg : decode cc pc = .ok (.invokestatic idx, 3))
    (kk : ∀ (v : Option Value) (H1 : Heap) (locs1 : List Loc), Lk G locs1 → Po v H H1 → W p l e R s m args below meth c H1 locs1 (cells + rm'.cells) (slots + rm'.slots) Q (F0 m (pc + 3) ls (v.toList ++ rest))) : W p l e R s m args below meth c H locs cells slots Q (F0 m pc ls st) :=
  m_run (av := []) (Pre := Pre) (va_runSN (m_fix E) hM ⟨va_cnB k E.2.2.2.2.1 (lw_goodc hC.1.1) rfl rfl rfl (E.2.2.2.2.2.2.2.2.2 _ hC.2.1) (E.2.2.2.2.1 _ hC.1.2.1) ⟨hC.1.2.2.1.1, hC.1.2.2.1.2, hC.1.2.2.2⟩ hR, E.2.2.2.2.1 _ hC.2.2, trivial⟩ ⟨m_blind, fun U hU hW => ⟨rfl, Gk.warm hW E.2.2.2.2.2.2.2, by rw [hU]; exact hp⟩⟩ rfl hk hls hst (lv_room hW) hdg hf) hL kk
theorem m_callIN (E : En G p s m args meth c cc n ret own) {y : MethodName} {b : ByteArray} {mL k idx a : Nat} {rm' : Room} {As : List Value} {Pre : Heap → Prop} {Po : Option Value → Heap → Heap → Prop} (hC : CWIN nestW own idx y b mL k) (hM : Ct G l y b mL none rm' (.ref a :: As) Pre Po) (hp : Pre H) (hL : Lk G locs) (hls : ls.size = n) (hst : st = As.reverse ++ .ref a :: rest) (hk : As.length = k) (hW : (rest.map fun v => v.category).sum ≤ 8) (hR : rm'.frames + 1 ≤ R.frames ∧ 8 + (mL + 11) + rm'.locals ≤ R.locals) (hf : cells + rm'.cells ≤ R.cells ∧ slots + rm'.slots ≤ R.slots) (hdg : decode cc pc = .ok (.invokespecial idx, 3))
    (kk : ∀ (v : Option Value) (H1 : Heap) (locs1 : List Loc), Lk G locs1 → Po v H H1 → W p l e R s m args below meth c H1 locs1 (cells + rm'.cells) (slots + rm'.slots) Q (F0 m (pc + 3) ls (v.toList ++ rest))) : W p l e R s m args below meth c H locs cells slots Q (F0 m pc ls st) :=
  m_run (av := []) (Pre := Pre) (va_runIN (m_fix E) hM ⟨va_cnB k E.2.2.2.2.1 (lw_goodc hC.1.1) rfl rfl rfl (E.2.2.2.2.2.2.2.2.2 _ hC.2.1) (E.2.2.2.2.1 _ hC.1.2.1) ⟨hC.1.2.2.1.1, hC.1.2.2.1.2, hC.1.2.2.2⟩ hR, hC.2.2.2, E.2.2.2.2.1 _ hC.2.2.1⟩ ⟨m_blind, fun U hU hW => ⟨rfl, Gk.warm hW E.2.2.2.2.2.2.2, by rw [hU]; exact hp⟩⟩ rfl hk hls hst (lv_room hW) hdg hf) hL kk
theorem m_objinit (E : En G p s m args meth c cc n ret own) {idx a : Nat} (hlk : Cond.methodLink own idx objectInit ∈ lw_all) (hls : ls.size = n) (hfr : 1 ≤ R.frames) (hlo : (rest.map fun v => v.category).sum + 12 ≤ R.locals) (hdg : decode cc pc = .ok (.invokespecial idx, 3))
    (kk : W p l e R s m args below meth c H locs cells slots Q (F0 m (pc + 3) ls rest)) : W p l e R s m args below meth c H locs cells slots Q (F0 m pc ls (.ref a :: rest)) :=
  W.objInit E.1 E.2.1 E.2.2.2.2.2.1 (E.2.2.2.2.1 _ hlk) (E.2.2.2.2.1 _ oi_inst) (E.2.2.2.2.1 _ oi_code) rfl (by rw [E.2.2.1]; exact hls) rfl hdg hfr (by show 2 * 0 + _ + 12 ≤ _; omega) kk
theorem m_min (E : En G p s m args meth c cc n ret own) {idx : Nat} (hlk : Cond.methodLink own idx Lib.Math.min.name ∈ lw_all) (hls : ls.size = n) (hfr : 1 ≤ R.frames) (hlo : (rest.map fun v => v.category).sum + 13 ≤ R.locals) (hc : cells ≤ R.cells) (hs : slots ≤ R.slots) {x y : Int32} (hdg : decode cc pc = .ok (.invokestatic idx, 3))
    (kk : ∀ z : Int32, z = (if y < x then y else x) → W p l e R s m args below meth c H locs cells slots Q (F0 m (pc + 3) ls (.int z :: rest))) : W p l e R s m args below meth c H locs cells slots Q (F0 m pc ls (.int y :: .int x :: rest)) :=
  va_mmin E.1 E.2.1 (by rw [E.2.2.1]; exact hls.symm) E.2.2.2.2.2.1 (E.2.2.2.2.1 _ hlk) (E.2.2.2.2.1 _ ms_min) (E.2.2.2.2.1 _ mi_math) (E.2.2.2.2.1 _ mc_min) hfr hlo hc hs hdg (kk _ rfl)
theorem m_max (E : En G p s m args meth c cc n ret own) {idx : Nat} (hlk : Cond.methodLink own idx Lib.Math.max.name ∈ lw_all) (hls : ls.size = n) (hfr : 1 ≤ R.frames) (hlo : (rest.map fun v => v.category).sum + 13 ≤ R.locals) (hc : cells ≤ R.cells) (hs : slots ≤ R.slots) {x y : Int32} (hdg : decode cc pc = .ok (.invokestatic idx, 3))
    (kk : ∀ z : Int32, z = (if x < y then y else x) → W p l e R s m args below meth c H locs cells slots Q (F0 m (pc + 3) ls (.int z :: rest))) : W p l e R s m args below meth c H locs cells slots Q (F0 m pc ls (.int y :: .int x :: rest)) :=
  va_mmax E.1 E.2.1 (by rw [E.2.2.1]; exact hls.symm) E.2.2.2.2.2.1 (E.2.2.2.2.1 _ hlk) (E.2.2.2.2.1 _ ms_max) (E.2.2.2.2.1 _ mi_math) (E.2.2.2.2.1 _ mc_max) hfr hlo hc hs hdg (kk _ rfl)
/-! joins and loops -/
theorem W_cut {α : Type} (P : α → Prop) (g : α → JFrame) {g0 : JFrame} (J : ∀ v, P v → W p l e R s m args below meth c H locs cells slots Q (g v)) (k : (∀ v, P v → W p l e R s m args below meth c H locs cells slots Q (g v)) → W p l e R s m args below meth c H locs cells slots Q g0) : W p l e R s m args below meth c H locs cells slots Q g0 := k J
end MR
end
section
/-! ints as whole numbers -/
def iI (z : Int) : Int32 := Int32.ofInt z
def b2i (b : Bool) : Int32 := if b then 1 else 0
def okI (z : Int) : Prop := -2147483648 ≤ z ∧ z < 2147483648
theorem iI_toInt {z : Int} (h : -2147483648 ≤ z) (h2 : z < 2147483648) : (iI z).toInt = z := Int32.toInt_ofInt_of_le h h2
theorem iI_add (a b : Int) : iI a + iI b = iI (a + b) := (Int32.ofInt_add a b).symm
theorem iI_sub (a b : Int) : iI a - iI b = iI (a - b) := (Int32.ofInt_sub a b).symm
theorem iI_mul (a b : Int) : iI a * iI b = iI (a * b) := (Int32.ofInt_mul a b).symm
theorem iI_of (x : Int32) : ∃ z, okI z ∧ x = iI z := ⟨x.toInt, ⟨Int32.le_toInt x, Int32.toInt_lt x⟩, (Int32.ofInt_toInt x).symm⟩
theorem iI_lt {a b : Int} (ha : -2147483648 ≤ a ∧ a < 2147483648) (hb : -2147483648 ≤ b ∧ b < 2147483648) : iI a < iI b ↔ a < b := by
  rw [Int32.lt_iff_toInt_lt, iI_toInt ha.1 ha.2, iI_toInt hb.1 hb.2]
theorem iI_le {a b : Int} (ha : -2147483648 ≤ a ∧ a < 2147483648) (hb : -2147483648 ≤ b ∧ b < 2147483648) : iI a ≤ iI b ↔ a ≤ b := by
  rw [Int32.le_iff_toInt_le, iI_toInt ha.1 ha.2, iI_toInt hb.1 hb.2]
theorem iI_eq {a b : Int} (ha : -2147483648 ≤ a ∧ a < 2147483648) (hb : -2147483648 ≤ b ∧ b < 2147483648) : iI a = iI b ↔ a = b := by
  rw [← Int32.toInt_inj, iI_toInt ha.1 ha.2, iI_toInt hb.1 hb.2]
theorem iI_nat (n : Nat) : nI n = iI n := rfl
theorem iI_clamp {z : Int} {i : Nat} (hz : z = (i : Int)) (h : i < 2147483648) : (iI z).toNatClampNeg = i := by
  subst hz
  exact nI_clamp h
theorem iI_in {z : Int} {i N : Nat} (hz : z = (i : Int)) (h : i < N) (hN : N < 2147483648) : vp_in (iI z) N := by
  subst hz
  exact vp_in_nI h hN
theorem iI_div {a b : Int} (ha : 0 ≤ a) (ha2 : a < 2147483648) (hb : 0 < b) (hb2 : b < 2147483648) : iI a / iI b = iI (a / b) := by
  obtain ⟨n, rfl⟩ := Int.eq_ofNat_of_zero_le ha
  obtain ⟨k, rfl⟩ := Int.eq_ofNat_of_zero_le (Int.le_of_lt hb)
  exact pk_div (by omega) (by omega) (by omega)
theorem iI_rem {a b : Int} (ha : 0 ≤ a) (ha2 : a < 2147483648) (hb : 0 < b) (hb2 : b < 2147483648) : iI a - iI a / iI b * iI b = iI (a % b) := by
  obtain ⟨n, rfl⟩ := Int.eq_ofNat_of_zero_le ha
  obtain ⟨k, rfl⟩ := Int.eq_ofNat_of_zero_le (Int.le_of_lt hb)
  exact pk_rem (by omega) (by omega) (by omega)
theorem b2i_01 (b : Bool) : b2i b = 0 ∨ b2i b = 1 := by cases b; exact Or.inl rfl; exact Or.inr rfl
theorem b2i_iI (b : Bool) : b2i b = iI (if b then 1 else 0) := by cases b <;> rfl
theorem b2i_ne {b : Bool} (h : b = true) : ¬ b2i b = 0 := by subst h; decide
theorem b2i_eq {b : Bool} (h : b = false) : b2i b = 0 := by subst h; rfl
theorem b2i_nar (b : Bool) : narrow .boolean (.int (b2i b)) = .int (b2i b) := by cases b <;> rfl
theorem iI_toN {z : Int} (h : 0 ≤ z) : z = ((z.toNat : Nat) : Int) := (Int.toNat_of_nonneg h).symm
section MI
variable {p : Program} {l : Launch} {e : Env} {R : Room} {s : State} {m : MethodId} {args : Array Value} {below : List Frame} {meth : Method} {c : Code} {H : Heap} {locs : List Loc} {cells slots : Nat} {Q : State → Prop}
variable {G : GG} {cc : ByteArray} {n : Nat} {ret : Option FieldType} {own : String} {pc : Nat} {ls : Array Slot} {rest : List Value}
theorem r_const (E : En G p s m args meth c cc n ret own) {z : Int} (hdg : decode cc pc = .ok (.iconst z, 1))
    (k : W p l e R s m args below meth c H locs cells slots Q (F0 m (pc + 1) ls (.int (iI z) :: rest))) : W p l e R s m args below meth c H locs cells slots Q (F0 m pc ls rest) := lv_iconst E.1 E.2.1 hdg rfl k
theorem r_bipush (E : En G p s m args meth c cc n ret own) {z : Int} (hdg : decode cc pc = .ok (.bipush z, 2)) (hz : (Int8.ofInt z).toInt32 = iI z)
    (k : W p l e R s m args below meth c H locs cells slots Q (F0 m (pc + 2) ls (.int (iI z) :: rest))) : W p l e R s m args below meth c H locs cells slots Q (F0 m pc ls rest) := lv_bipush E.1 E.2.1 hdg hz k
theorem r_sipush (E : En G p s m args meth c cc n ret own) {z : Int} (hdg : decode cc pc = .ok (.sipush z, 3)) (hz : (Int16.ofInt z).toInt32 = iI z)
    (k : W p l e R s m args below meth c H locs cells slots Q (F0 m (pc + 3) ls (.int (iI z) :: rest))) : W p l e R s m args below meth c H locs cells slots Q (F0 m pc ls rest) := lv_sipush E.1 E.2.1 hdg hz k
theorem r_add (E : En G p s m args meth c cc n ret own) {a b : Int} (hdg : decode cc pc = .ok (.iadd, 1))
    (k : W p l e R s m args below meth c H locs cells slots Q (F0 m (pc + 1) ls (.int (iI (a + b)) :: rest))) : W p l e R s m args below meth c H locs cells slots Q (F0 m pc ls (.int (iI b) :: .int (iI a) :: rest)) := lv_iadd E.1 E.2.1 hdg (by rw [iI_add]; exact k)
theorem r_sub (E : En G p s m args meth c cc n ret own) {a b : Int} (hdg : decode cc pc = .ok (.isub, 1))
    (k : W p l e R s m args below meth c H locs cells slots Q (F0 m (pc + 1) ls (.int (iI (a - b)) :: rest))) : W p l e R s m args below meth c H locs cells slots Q (F0 m pc ls (.int (iI b) :: .int (iI a) :: rest)) := lv_isub E.1 E.2.1 hdg (by rw [iI_sub]; exact k)
theorem r_mul (E : En G p s m args meth c cc n ret own) {a b : Int} (hdg : decode cc pc = .ok (.imul, 1))
    (k : W p l e R s m args below meth c H locs cells slots Q (F0 m (pc + 1) ls (.int (iI (a * b)) :: rest))) : W p l e R s m args below meth c H locs cells slots Q (F0 m pc ls (.int (iI b) :: .int (iI a) :: rest)) := lv_imul E.1 E.2.1 hdg (by rw [iI_mul]; exact k)
theorem r_div (E : En G p s m args meth c cc n ret own) {a b : Int} (hdg : decode cc pc = .ok (.idiv, 1)) (ha : 0 ≤ a) (ha2 : a < 2147483648) (hb : 0 < b) (hb2 : b < 2147483648)
    (k : W p l e R s m args below meth c H locs cells slots Q (F0 m (pc + 1) ls (.int (iI (a / b)) :: rest))) : W p l e R s m args below meth c H locs cells slots Q (F0 m pc ls (.int (iI b) :: .int (iI a) :: rest)) := lv_idiv E.1 E.2.1 hdg (fun h => by have := (iI_eq (a := b) (b := 0) ⟨by omega, hb2⟩ ⟨by omega, by omega⟩).mp h; omega) (by rw [iI_div ha ha2 hb hb2]; exact k)
theorem r_rem (E : En G p s m args meth c cc n ret own) {a b : Int} (hdg : decode cc pc = .ok (.irem, 1)) (ha : 0 ≤ a) (ha2 : a < 2147483648) (hb : 0 < b) (hb2 : b < 2147483648)
    (k : W p l e R s m args below meth c H locs cells slots Q (F0 m (pc + 1) ls (.int (iI (a % b)) :: rest))) : W p l e R s m args below meth c H locs cells slots Q (F0 m pc ls (.int (iI b) :: .int (iI a) :: rest)) := lv_irem E.1 E.2.1 hdg (fun h => by have := (iI_eq (a := b) (b := 0) ⟨by omega, hb2⟩ ⟨by omega, by omega⟩).mp h; omega) (by rw [iI_rem ha ha2 hb hb2]; exact k)
theorem r_icmp_eq (E : En G p s m args meth c cc n ret own) {a b : Int} {off : Int} {tgt : Nat} (hdg : decode cc pc = .ok (.if_icmp .eq off, 3)) (ht : (pc : Int) + off = (tgt : Int)) (ha : -2147483648 ≤ a ∧ a < 2147483648) (hb : -2147483648 ≤ b ∧ b < 2147483648)
    (kt : a = b → W p l e R s m args below meth c H locs cells slots Q (F0 m tgt ls rest)) (kf : ¬ a = b → W p l e R s m args below meth c H locs cells slots Q (F0 m (pc + 3) ls rest)) : W p l e R s m args below meth c H locs cells slots Q (F0 m pc ls (.int (iI b) :: .int (iI a) :: rest)) := lv_icmp_eq E.1 E.2.1 hdg ht (fun h => kt ((iI_eq ha hb).mp h)) (fun h => kf (fun q => h ((iI_eq ha hb).mpr q)))
theorem r_if_eq (E : En G p s m args meth c cc n ret own) {a : Int} {off : Int} {tgt : Nat} (hdg : decode cc pc = .ok (.ifCond .eq off, 3)) (ht : (pc : Int) + off = (tgt : Int)) (ha : -2147483648 ≤ a ∧ a < 2147483648)
    (kt : a = 0 → W p l e R s m args below meth c H locs cells slots Q (F0 m tgt ls rest)) (kf : ¬ a = 0 → W p l e R s m args below meth c H locs cells slots Q (F0 m (pc + 3) ls rest)) : W p l e R s m args below meth c H locs cells slots Q (F0 m pc ls (.int (iI a) :: rest)) := lv_if_eq E.1 E.2.1 hdg ht (fun h => kt ((iI_eq (b := 0) ha ⟨by decide, by decide⟩).mp h)) (fun h => kf (fun q => h ((iI_eq (b := 0) ha ⟨by decide, by decide⟩).mpr q)))
theorem r_icmp_ne (E : En G p s m args meth c cc n ret own) {a b : Int} {off : Int} {tgt : Nat} (hdg : decode cc pc = .ok (.if_icmp .ne off, 3)) (ht : (pc : Int) + off = (tgt : Int)) (ha : -2147483648 ≤ a ∧ a < 2147483648) (hb : -2147483648 ≤ b ∧ b < 2147483648)
    (kt : ¬ a = b → W p l e R s m args below meth c H locs cells slots Q (F0 m tgt ls rest)) (kf : a = b → W p l e R s m args below meth c H locs cells slots Q (F0 m (pc + 3) ls rest)) : W p l e R s m args below meth c H locs cells slots Q (F0 m pc ls (.int (iI b) :: .int (iI a) :: rest)) := lv_icmp_ne E.1 E.2.1 hdg ht (fun h => kt (fun q => h ((iI_eq ha hb).mpr q))) (fun h => kf ((iI_eq ha hb).mp h))
theorem r_if_ne (E : En G p s m args meth c cc n ret own) {a : Int} {off : Int} {tgt : Nat} (hdg : decode cc pc = .ok (.ifCond .ne off, 3)) (ht : (pc : Int) + off = (tgt : Int)) (ha : -2147483648 ≤ a ∧ a < 2147483648)
    (kt : ¬ a = 0 → W p l e R s m args below meth c H locs cells slots Q (F0 m tgt ls rest)) (kf : a = 0 → W p l e R s m args below meth c H locs cells slots Q (F0 m (pc + 3) ls rest)) : W p l e R s m args below meth c H locs cells slots Q (F0 m pc ls (.int (iI a) :: rest)) := lv_if_ne E.1 E.2.1 hdg ht (fun h => kt (fun q => h ((iI_eq (b := 0) ha ⟨by decide, by decide⟩).mpr q))) (fun h => kf ((iI_eq (b := 0) ha ⟨by decide, by decide⟩).mp h))
theorem r_icmp_lt (E : En G p s m args meth c cc n ret own) {a b : Int} {off : Int} {tgt : Nat} (hdg : decode cc pc = .ok (.if_icmp .lt off, 3)) (ht : (pc : Int) + off = (tgt : Int)) (ha : -2147483648 ≤ a ∧ a < 2147483648) (hb : -2147483648 ≤ b ∧ b < 2147483648)
    (kt : a < b → W p l e R s m args below meth c H locs cells slots Q (F0 m tgt ls rest)) (kf : ¬ a < b → W p l e R s m args below meth c H locs cells slots Q (F0 m (pc + 3) ls rest)) : W p l e R s m args below meth c H locs cells slots Q (F0 m pc ls (.int (iI b) :: .int (iI a) :: rest)) := lv_icmp_lt E.1 E.2.1 hdg ht (fun h => kt ((iI_lt ha hb).mp h)) (fun h => kf (fun q => h ((iI_lt ha hb).mpr q)))
theorem r_if_lt (E : En G p s m args meth c cc n ret own) {a : Int} {off : Int} {tgt : Nat} (hdg : decode cc pc = .ok (.ifCond .lt off, 3)) (ht : (pc : Int) + off = (tgt : Int)) (ha : -2147483648 ≤ a ∧ a < 2147483648)
    (kt : a < 0 → W p l e R s m args below meth c H locs cells slots Q (F0 m tgt ls rest)) (kf : ¬ a < 0 → W p l e R s m args below meth c H locs cells slots Q (F0 m (pc + 3) ls rest)) : W p l e R s m args below meth c H locs cells slots Q (F0 m pc ls (.int (iI a) :: rest)) := lv_if_lt E.1 E.2.1 hdg ht (fun h => kt ((iI_lt (b := 0) ha ⟨by decide, by decide⟩).mp h)) (fun h => kf (fun q => h ((iI_lt (b := 0) ha ⟨by decide, by decide⟩).mpr q)))
theorem r_icmp_le (E : En G p s m args meth c cc n ret own) {a b : Int} {off : Int} {tgt : Nat} (hdg : decode cc pc = .ok (.if_icmp .le off, 3)) (ht : (pc : Int) + off = (tgt : Int)) (ha : -2147483648 ≤ a ∧ a < 2147483648) (hb : -2147483648 ≤ b ∧ b < 2147483648)
    (kt : a ≤ b → W p l e R s m args below meth c H locs cells slots Q (F0 m tgt ls rest)) (kf : ¬ a ≤ b → W p l e R s m args below meth c H locs cells slots Q (F0 m (pc + 3) ls rest)) : W p l e R s m args below meth c H locs cells slots Q (F0 m pc ls (.int (iI b) :: .int (iI a) :: rest)) := lv_icmp_le E.1 E.2.1 hdg ht (fun h => kt ((iI_le ha hb).mp h)) (fun h => kf (fun q => h ((iI_le ha hb).mpr q)))
theorem r_if_le (E : En G p s m args meth c cc n ret own) {a : Int} {off : Int} {tgt : Nat} (hdg : decode cc pc = .ok (.ifCond .le off, 3)) (ht : (pc : Int) + off = (tgt : Int)) (ha : -2147483648 ≤ a ∧ a < 2147483648)
    (kt : a ≤ 0 → W p l e R s m args below meth c H locs cells slots Q (F0 m tgt ls rest)) (kf : ¬ a ≤ 0 → W p l e R s m args below meth c H locs cells slots Q (F0 m (pc + 3) ls rest)) : W p l e R s m args below meth c H locs cells slots Q (F0 m pc ls (.int (iI a) :: rest)) := lv_if_le E.1 E.2.1 hdg ht (fun h => kt ((iI_le (b := 0) ha ⟨by decide, by decide⟩).mp h)) (fun h => kf (fun q => h ((iI_le (b := 0) ha ⟨by decide, by decide⟩).mpr q)))
theorem r_icmp_gt (E : En G p s m args meth c cc n ret own) {a b : Int} {off : Int} {tgt : Nat} (hdg : decode cc pc = .ok (.if_icmp .gt off, 3)) (ht : (pc : Int) + off = (tgt : Int)) (ha : -2147483648 ≤ a ∧ a < 2147483648) (hb : -2147483648 ≤ b ∧ b < 2147483648)
    (kt : b < a → W p l e R s m args below meth c H locs cells slots Q (F0 m tgt ls rest)) (kf : ¬ b < a → W p l e R s m args below meth c H locs cells slots Q (F0 m (pc + 3) ls rest)) : W p l e R s m args below meth c H locs cells slots Q (F0 m pc ls (.int (iI b) :: .int (iI a) :: rest)) := lv_icmp_gt E.1 E.2.1 hdg ht (fun h => kt ((iI_lt hb ha).mp h)) (fun h => kf (fun q => h ((iI_lt hb ha).mpr q)))
theorem r_if_gt (E : En G p s m args meth c cc n ret own) {a : Int} {off : Int} {tgt : Nat} (hdg : decode cc pc = .ok (.ifCond .gt off, 3)) (ht : (pc : Int) + off = (tgt : Int)) (ha : -2147483648 ≤ a ∧ a < 2147483648)
    (kt : 0 < a → W p l e R s m args below meth c H locs cells slots Q (F0 m tgt ls rest)) (kf : ¬ 0 < a → W p l e R s m args below meth c H locs cells slots Q (F0 m (pc + 3) ls rest)) : W p l e R s m args below meth c H locs cells slots Q (F0 m pc ls (.int (iI a) :: rest)) := lv_if_gt E.1 E.2.1 hdg ht (fun h => kt ((iI_lt (a := 0) ⟨by decide, by decide⟩ ha).mp h)) (fun h => kf (fun q => h ((iI_lt (a := 0) ⟨by decide, by decide⟩ ha).mpr q)))
theorem r_icmp_ge (E : En G p s m args meth c cc n ret own) {a b : Int} {off : Int} {tgt : Nat} (hdg : decode cc pc = .ok (.if_icmp .ge off, 3)) (ht : (pc : Int) + off = (tgt : Int)) (ha : -2147483648 ≤ a ∧ a < 2147483648) (hb : -2147483648 ≤ b ∧ b < 2147483648)
    (kt : b ≤ a → W p l e R s m args below meth c H locs cells slots Q (F0 m tgt ls rest)) (kf : ¬ b ≤ a → W p l e R s m args below meth c H locs cells slots Q (F0 m (pc + 3) ls rest)) : W p l e R s m args below meth c H locs cells slots Q (F0 m pc ls (.int (iI b) :: .int (iI a) :: rest)) := lv_icmp_ge E.1 E.2.1 hdg ht (fun h => kt ((iI_le hb ha).mp h)) (fun h => kf (fun q => h ((iI_le hb ha).mpr q)))
theorem r_if_ge (E : En G p s m args meth c cc n ret own) {a : Int} {off : Int} {tgt : Nat} (hdg : decode cc pc = .ok (.ifCond .ge off, 3)) (ht : (pc : Int) + off = (tgt : Int)) (ha : -2147483648 ≤ a ∧ a < 2147483648)
    (kt : 0 ≤ a → W p l e R s m args below meth c H locs cells slots Q (F0 m tgt ls rest)) (kf : ¬ 0 ≤ a → W p l e R s m args below meth c H locs cells slots Q (F0 m (pc + 3) ls rest)) : W p l e R s m args below meth c H locs cells slots Q (F0 m pc ls (.int (iI a) :: rest)) := lv_if_ge E.1 E.2.1 hdg ht (fun h => kt ((iI_le (a := 0) ⟨by decide, by decide⟩ ha).mp h)) (fun h => kf (fun q => h ((iI_le (a := 0) ⟨by decide, by decide⟩ ha).mpr q)))
theorem r_bif_eq (E : En G p s m args meth c cc n ret own) {b : Bool} {off : Int} {tgt : Nat} (hdg : decode cc pc = .ok (.ifCond .eq off, 3)) (ht : (pc : Int) + off = (tgt : Int))
    (kt : b = false → W p l e R s m args below meth c H locs cells slots Q (F0 m tgt ls rest)) (kf : b = true → W p l e R s m args below meth c H locs cells slots Q (F0 m (pc + 3) ls rest)) : W p l e R s m args below meth c H locs cells slots Q (F0 m pc ls (.int (b2i b) :: rest)) := lv_if_eq E.1 E.2.1 hdg ht (fun h => kt (by cases b; rfl; exact absurd h (by decide))) (fun h => kf (by cases b; exact absurd rfl h; rfl))
theorem r_bif_ne (E : En G p s m args meth c cc n ret own) {b : Bool} {off : Int} {tgt : Nat} (hdg : decode cc pc = .ok (.ifCond .ne off, 3)) (ht : (pc : Int) + off = (tgt : Int))
    (kt : b = true → W p l e R s m args below meth c H locs cells slots Q (F0 m tgt ls rest)) (kf : b = false → W p l e R s m args below meth c H locs cells slots Q (F0 m (pc + 3) ls rest)) : W p l e R s m args below meth c H locs cells slots Q (F0 m pc ls (.int (b2i b) :: rest)) := lv_if_ne E.1 E.2.1 hdg ht (fun h => kt (by cases b; exact absurd rfl h; rfl)) (fun h => kf (by cases b; rfl; exact absurd h (by decide)))
theorem r_inc (E : En G p s m args meth c cc n ret own) {i nL k : Nat} {d z : Int} {lv lv' : List (Nat × Value)} (hdg : decode cc pc = .ok (.iinc i d, 3)) (h : lv_has ls nL lv) (hk : lv[k]? = some (i, .int (iI z))) (hn : i < nL) (hl : (i, Value.int (iI (z + d))) :: lv.filter (fun q => !(q.1 == i) && !(q.1 + 1 == i && q.2.category == 2)) = lv')
    (kk : ∀ ls' : Array Slot, lv_has ls' nL lv' → W p l e R s m args below meth c H locs cells slots Q (F0 m (pc + 3) ls' rest)) : W p l e R s m args below meth c H locs cells slots Q (F0 m pc ls rest) := lv_iinc (v := iI (z + d)) E.1 E.2.1 hdg h hk (by rw [← iI_add]; rfl) hn hl kk
theorem r_iald (E : En G p s m args meth c cc n ret own) {a N : Nat} {f : Nat → Int32} (hO : Ia G a 0 N f H) {z : Int} (i : Nat) (hz : z = (i : Int)) (hi : i < N) (hN : N < 2147483648) (hdg : decode cc pc = .ok (.iaload, 1))
    (kk : W p l e R s m args below meth c H locs cells slots Q (F0 m (pc + 1) ls (.int (f i) :: rest))) : W p l e R s m args below meth c H locs cells slots Q (F0 m pc ls (.int (iI z) :: .ref a :: rest)) := m_iald E hO (iI_in hz hi hN) hdg (by rw [iI_clamp hz (by omega)]; exact kk)
theorem r_zald (E : En G p s m args meth c cc n ret own) {a N : Nat} {f : Nat → Int32} (hO : Ia G a 1 N f H) {z : Int} (i : Nat) (hz : z = (i : Int)) (hi : i < N) (hN : N < 2147483648) (hdg : decode cc pc = .ok (.baload, 1))
    (kk : W p l e R s m args below meth c H locs cells slots Q (F0 m (pc + 1) ls (.int (f i) :: rest))) : W p l e R s m args below meth c H locs cells slots Q (F0 m pc ls (.int (iI z) :: .ref a :: rest)) := m_zald E hO (iI_in hz hi hN) hdg (by rw [iI_clamp hz (by omega)]; exact kk)
theorem r_cald (E : En G p s m args meth c cc n ret own) {a N : Nat} {f : Nat → Int32} (hO : Ia G a 2 N f H) {z : Int} (i : Nat) (hz : z = (i : Int)) (hi : i < N) (hN : N < 2147483648) (hdg : decode cc pc = .ok (.caload, 1))
    (kk : W p l e R s m args below meth c H locs cells slots Q (F0 m (pc + 1) ls (.int (f i) :: rest))) : W p l e R s m args below meth c H locs cells slots Q (F0 m pc ls (.int (iI z) :: .ref a :: rest)) := m_cald E hO (iI_in hz hi hN) hdg (by rw [iI_clamp hz (by omega)]; exact kk)
theorem r_aald (E : En G p s m args meth c cc n ret own) {a N t : Nat} {f : Nat → Option Nat} {C : String} (hO : Ra G a t N f H) (ht : (gTys G)[t]? = some (G.2.1 t, .object C)) {z : Int} (i : Nat) (hz : z = (i : Int)) (hi : i < N) (hN : N < 2147483648) (hdg : decode cc pc = .ok (.aaload, 1))
    (kk : W p l e R s m args below meth c H locs cells slots Q (F0 m (pc + 1) ls (va_rf (f i) :: rest))) : W p l e R s m args below meth c H locs cells slots Q (F0 m pc ls (.int (iI z) :: .ref a :: rest)) := m_aald E hO ht (iI_in hz hi hN) hdg (by rw [iI_clamp hz (by omega)]; exact kk)
theorem r_iast (E : En G p s m args meth c cc n ret own) {a N : Nat} {f : Nat → Int32} (hO : Ia G a 0 N f H) {z : Int} {x : Int32} (i : Nat) (hz : z = (i : Int)) (hi : i < N) (hN : N < 2147483648) (hL : Lk G locs) (ha : G.2.2 ≤ a) (hdg : decode cc pc = .ok (.iastore, 1))
    (kk : ∀ (H1 : Heap) (locs1 : List Loc), Lk G locs1 → Ia G a 0 N (upd f i x) H1 → Fr1 a H H1 → W p l e R s m args below meth c H1 locs1 cells slots Q (F0 m (pc + 1) ls rest)) : W p l e R s m args below meth c H locs cells slots Q (F0 m pc ls (.int x :: .int (iI z) :: .ref a :: rest)) := m_iast E hO (iI_in hz hi hN) hL ha hdg (by rw [iI_clamp hz (by omega)]; exact kk)
theorem r_zast (E : En G p s m args meth c cc n ret own) {a N : Nat} {f : Nat → Int32} (hO : Ia G a 1 N f H) {z : Int} {b : Bool} (i : Nat) (hz : z = (i : Int)) (hi : i < N) (hN : N < 2147483648) (hL : Lk G locs) (ha : G.2.2 ≤ a) (hdg : decode cc pc = .ok (.bastore, 1))
    (kk : ∀ (H1 : Heap) (locs1 : List Loc), Lk G locs1 → Ia G a 1 N (upd f i (b2i b)) H1 → Fr1 a H H1 → W p l e R s m args below meth c H1 locs1 cells slots Q (F0 m (pc + 1) ls rest)) : W p l e R s m args below meth c H locs cells slots Q (F0 m pc ls (.int (b2i b) :: .int (iI z) :: .ref a :: rest)) := m_zast E hO (iI_in hz hi hN) hL ha hdg (by rw [iI_clamp hz (by omega), show vp_nar .boolean (b2i b) = b2i b by cases b <;> rfl]; exact kk)
theorem r_aastQ (E : En G p s m args meth c cc n ret own) {a N t ci : Nat} {f : Nat → Option Nat} {v : Option Nat} {r : vw_C} (hO : Ra G a t N f H) (ht : (gTys G)[t]? = some (G.2.1 t, .object r.1)) (hv : ∀ q, v = some q → ∃ vs, Ob G q ci vs H) (hc : vwCl[ci]? = some r) {z : Int} (i : Nat) (hz : z = (i : Int)) (hi : i < N) (hN : N < 2147483648) (hL : Lk G locs) (ha : G.2.2 ≤ a) (hdg : decode cc pc = .ok (.aastore, 1))
    (kk : ∀ (H1 : Heap) (locs1 : List Loc), Lk G locs1 → Ra G a t N (va_up f i v) H1 → Fr1 a H H1 → W p l e R s m args below meth c H1 locs1 cells slots Q (F0 m (pc + 1) ls rest)) : W p l e R s m args below meth c H locs cells slots Q (F0 m pc ls (va_rf v :: .int (iI z) :: .ref a :: rest)) := m_aastQ E hO ht hv hc (iI_in hz hi hN) hL ha hdg (by rw [iI_clamp hz (by omega)]; exact kk)
/-- a loop's head: a number that falls -/
theorem W_loop {α : Type} (P : Nat → α → Prop) (Hf : α → Heap) (lf : α → List Loc) (cf sf : α → Nat) (g : α → JFrame)
    (step : ∀ k a, P k a → (∀ k' a', k' < k → P k' a' → W p l e R s m args below meth c (Hf a') (lf a') (cf a') (sf a') Q (g a')) → W p l e R s m args below meth c (Hf a) (lf a) (cf a) (sf a) Q (g a)) (k : Nat) (a : α) (h : P k a) : W p l e R s m args below meth c (Hf a) (lf a) (cf a) (sf a) Q (g a) := by
  induction k using Nat.strongRecOn generalizing a with
  | ind k ih => exact step k a h (fun k' a' hk hp => ih k' hk a' hp)
end MI
end
section
/-! the disc's state and what each call does to it, in whole numbers -/
abbrev Fil : Type := Nat × Nat × Nat
def St : Type := (Nat × Nat × Nat × Nat) × (Nat → Bool) × (Nat → Nat) × (Nat → Nat → Nat) × (Nat → Nat → Option Fil)
def mkS (nx mn s0 s1 : Nat) (dm : Nat → Bool) (vr : Nat → Nat) (se : Nat → Nat → Nat) (en : Nat → Nat → Option Fil) : St := ((nx, mn, s0, s1), dm, vr, se, en)
def nx (σ : St) : Nat := σ.1.1
def mn (σ : St) : Nat := σ.1.2.1
def s0 (σ : St) : Nat := σ.1.2.2.1
def s1 (σ : St) : Nat := σ.1.2.2.2
def dm (σ : St) : Nat → Bool := σ.2.1
def vr (σ : St) : Nat → Nat := σ.2.2.1
def se (σ : St) : Nat → Nat → Nat := σ.2.2.2.1
def en (σ : St) : Nat → Nat → Option Fil := σ.2.2.2.2
theorem nx_mk (a b c d : Nat) (e f g h) : nx (mkS a b c d e f g h) = a := rfl
theorem mn_mk (a b c d : Nat) (e f g h) : mn (mkS a b c d e f g h) = b := rfl
theorem s0_mk (a b c d : Nat) (e f g h) : s0 (mkS a b c d e f g h) = c := rfl
theorem s1_mk (a b c d : Nat) (e f g h) : s1 (mkS a b c d e f g h) = d := rfl
theorem dm_mk (a b c d : Nat) (e f g h) : dm (mkS a b c d e f g h) = e := rfl
theorem vr_mk (a b c d : Nat) (e f g h) : vr (mkS a b c d e f g h) = f := rfl
theorem se_mk (a b c d : Nat) (e f g h) : se (mkS a b c d e f g h) = g := rfl
theorem en_mk (a b c d : Nat) (e f g h) : en (mkS a b c d e f g h) = h := rfl
def wholeB (d : Nat → Bool) (a : Nat) : Nat → Bool
  | 0 => true
  | c + 1 => wholeB d a c && !d (a + c)
def lastB (p : Nat → Bool) : Nat → Option Nat
  | 0 => none
  | n + 1 => if p n then some n else lastB p n
def cntB (p : Nat → Bool) : Nat → Nat
  | 0 => 0
  | n + 1 => cntB p n + (if p n then 1 else 0)
def sumF (f : Nat → Nat) : Nat → Nat
  | 0 => 0
  | n + 1 => sumF f n + f n
def oI (o : Option Nat) : Int := match o with
  | none => -6
  | some n => n
def opn (σ : St) : Option Nat := if 0 < mn σ ∧ se σ (mn σ - 1) 0 = 0 then some (mn σ - 1) else none
def readB (σ : St) (d : Nat → Bool) (n : Nat) : Bool := decide (se σ n 0 = 1) && wholeB d (se σ n 1) (se σ n 3)
def validD (σ : St) (d : Nat → Bool) : Option Nat := lastB (readB σ d) (mn σ)
def dmH (σ : St) (h : Int) : Nat → Bool := fun k => dm σ k || decide ((k : Int) = h)
def intactO (d : Nat → Bool) (o : Option Fil) : Bool := match o with
  | none => false
  | some f => wholeB d f.1 f.2.1
def sizeO (o : Option Fil) : Nat := match o with
  | none => 0
  | some f => f.2.1
def cntIntact (σ : St) (d : Nat → Bool) : Nat := match validD σ d with
  | none => 0
  | some n => cntB (fun k => intactO d (en σ n k)) 20
def foundSec (σ : St) : Nat := match validD σ (dm σ) with
  | none => 0
  | some n => sumF (fun k => sizeO (en σ n k)) 20
def foundF (σ : St) (name : Nat) : Option Fil := match validD σ (dm σ) with
  | none => none
  | some n => en σ n name
def sesAt (σ : St) (k : Nat) : Option Nat := lastB (fun n => decide (se σ n 1 ≤ k ∧ k < se σ n 1 + se σ n 2)) (mn σ)
def roomN (σ : St) : Nat := match opn σ with
  | some n => 240 - (nx σ + se σ n 4)
  | none => if 12 ≤ mn σ then 0 else 240 - (nx σ + s0 σ + s1 σ)
def worstA (f : Nat → Nat) : Nat → Nat × Nat
  | 0 => (0, 21)
  | k + 1 => if f k < (worstA f k).2 then (k, f k) else worstA f k
/-! actions -/
def isNm (x : Int) : Prop := 0 ≤ x ∧ x < 20
def isSc (x : Int) : Prop := 0 ≤ x ∧ x < 240
def spBegin (σ : St) (mode : Int) : Int × St :=
  if ¬ mode = 0 ∧ ¬ mode = 1 then (-2, σ)
  else if (opn σ).isSome then (-5, σ)
  else if 12 ≤ mn σ ∨ 240 < nx σ + s0 σ + s1 σ then (-4, σ)
  else (mn σ, mkS (nx σ + s0 σ) (mn σ + 1) (s0 σ) (s1 σ) (dm σ) (vr σ)
    (va_up (se σ) (mn σ) (fun w => if w = 1 then nx σ else if w = 2 then s0 σ else if w = 3 then s0 σ else if w = 4 then s1 σ else 0))
    (va_up (en σ) (mn σ) (fun k => if mode = 1 then foundF σ k else none)))
def spWrite (σ : St) (name size : Int) : Int × St :=
  if ¬ (0 ≤ name ∧ name < 20) then (-1, σ)
  else if ¬ (1 ≤ size ∧ size ≤ 40) then (-2, σ)
  else match opn σ with
    | none => (-5, σ)
    | some n => if 240 < nx σ + size.toNat + se σ n 4 then (-4, σ)
      else (nx σ, mkS (nx σ + size.toNat) (mn σ) (s0 σ) (s1 σ) (dm σ) (va_up (vr σ) name.toNat (vr σ name.toNat + 1))
        (va_up (se σ) n (va_up (va_up (se σ n) 2 (se σ n 2 + size.toNat)) 5 (se σ n 5 + 1)))
        (va_up (en σ) n (va_up (en σ n) name.toNat (some (nx σ, size.toNat, n)))))
def entriesN (σ : St) (n : Nat) : Nat := cntB (fun k => (en σ n k).isSome) 20
def spRemove (σ : St) (name : Int) : Int × St :=
  if ¬ (0 ≤ name ∧ name < 20) then (-1, σ)
  else match opn σ with
    | none => (-5, σ)
    | some n => if (en σ n name.toNat).isSome then
        (entriesN (mkS (nx σ) (mn σ) (s0 σ) (s1 σ) (dm σ) (vr σ) (se σ) (va_up (en σ) n (va_up (en σ n) name.toNat none))) n, mkS (nx σ) (mn σ) (s0 σ) (s1 σ) (dm σ) (vr σ) (se σ) (va_up (en σ) n (va_up (en σ n) name.toNat none)))
      else (-5, σ)
def spKeep (σ : St) (name ses : Int) : Int × St :=
  if ¬ (0 ≤ name ∧ name < 20) ∨ ¬ (0 ≤ ses ∧ ses < mn σ) then (-1, σ)
  else match opn σ with
    | none => (-5, σ)
    | some n => if readB σ (dm σ) ses.toNat then
        match en σ ses.toNat name.toNat with
        | none => (-5, σ)
        | some f => (f.1, mkS (nx σ) (mn σ) (s0 σ) (s1 σ) (dm σ) (vr σ) (se σ) (va_up (en σ) n (va_up (en σ n) name.toNat (some f))))
      else (-5, σ)
/-- the lead-out of the last session n is written, and it is closed -/
def leadOut (σ : St) (n : Nat) : Int × St :=
  (nx σ + se σ n 4, mkS (nx σ + se σ n 4) (mn σ) (s0 σ) (s1 σ) (dm σ) (vr σ) (va_up (se σ) n (va_up (va_up (se σ n) 2 (se σ n 2 + se σ n 4)) 0 1)) (en σ))
def spClose (σ : St) : Int × St := match opn σ with
  | none => (-5, σ)
  | some n => leadOut σ n
def spEject (σ : St) : Int × St := match opn σ with
  | none => (0, σ)
  | some n => (1, mkS (nx σ) (mn σ) (s0 σ) (s1 σ) (dm σ) (vr σ) (va_up (se σ) n (va_up (se σ n) 0 2)) (en σ))
def spRepair (σ : St) (ses : Int) : Int × St :=
  if ¬ (0 ≤ ses ∧ ses < mn σ) then (-1, σ)
  else if se σ ses.toNat 0 = 2 ∧ ses + 1 = mn σ ∧ wholeB (dm σ) (se σ ses.toNat 1) (se σ ses.toNat 3) = true then leadOut σ ses.toNat
  else (-5, σ)
def spDamage (σ : St) (sector : Int) : Int × St :=
  if ¬ (0 ≤ sector ∧ sector < 240) then (-1, σ)
  else (cntB (va_up (dm σ) sector.toNat true) 240, mkS (nx σ) (mn σ) (s0 σ) (s1 σ) (va_up (dm σ) sector.toNat true) (vr σ) (se σ) (en σ))
def spSet (σ : St) (setting value : Int) : Int × St :=
  if ¬ (setting = 0 ∨ setting = 1) then (-1, σ)
  else if setting = 0 then (if 2 ≤ value ∧ value ≤ 9 then ((s0 σ : Int), mkS (nx σ) (mn σ) value.toNat (s1 σ) (dm σ) (vr σ) (se σ) (en σ)) else (-2, σ))
  else (if 1 ≤ value ∧ value ≤ 9 then ((s1 σ : Int), mkS (nx σ) (mn σ) (s0 σ) value.toNat (dm σ) (vr σ) (se σ) (en σ)) else (-2, σ))
/-! questions -/
def spSession (σ : St) (ses what : Int) : Int :=
  if ¬ (0 ≤ ses ∧ ses < mn σ) then -1
  else if 0 ≤ what ∧ what ≤ 4 then se σ ses.toNat what.toNat
  else if what = 5 then entriesN σ ses.toNat
  else if what = 6 then (if readB σ (dm σ) ses.toNat then 1 else 0)
  else if what = 7 then se σ ses.toNat 5
  else -2
def spEntry (σ : St) (ses name what : Int) : Int :=
  if ¬ (0 ≤ ses ∧ ses < mn σ) ∨ ¬ (0 ≤ name ∧ name < 20) then -1
  else if ¬ (0 ≤ what ∧ what ≤ 2) then -2
  else match en σ ses.toNat name.toNat with
    | none => -6
    | some f => if what = 0 then f.1 else if what = 1 then f.2.1 else f.2.2
def spValid (σ : St) : Int := oI (validD σ (dm σ))
def spDamaged (σ : St) (sector : Int) : Int := if ¬ (0 ≤ sector ∧ sector < 240) then -1 else if dm σ sector.toNat then 1 else 0
def useN (σ : St) (k : Nat) : Int := match sesAt σ k with
  | none => 0
  | some n => if k < se σ n 1 + se σ n 3 then 1 else if se σ n 0 = 1 ∧ se σ n 1 + se σ n 2 - se σ n 4 ≤ k then 2 else 3
def spUse (σ : St) (sector : Int) : Int := if ¬ (0 ≤ sector ∧ sector < 240) then -1 else useN σ sector.toNat
def spSetting (σ : St) (setting : Int) : Int := if setting = 0 then s0 σ else if setting = 1 then s1 σ else -1
def spFind (σ : St) (name : Int) : Int := if ¬ (0 ≤ name ∧ name < 20) then -1 else match foundF σ name.toNat with
  | none => -6
  | some f => f.1
def spIntact (σ : St) (name : Int) : Int := if ¬ (0 ≤ name ∧ name < 20) then -1 else match foundF σ name.toNat with
  | none => -6
  | some f => if wholeB (dm σ) f.1 f.2.1 then 1 else 0
def spIntactFiles (σ : St) : Int := cntIntact σ (dm σ)
def spVersions (σ : St) (name : Int) : Int := if ¬ (0 ≤ name ∧ name < 20) then -1 else vr σ name.toNat
def spLatest (σ : St) (name : Int) : Int := if ¬ (0 ≤ name ∧ name < 20) then -1 else oI (lastB (fun n => readB σ (dm σ) n && intactO (dm σ) (en σ n name.toNat)) (mn σ))
def spLost (σ : St) : Int := nx σ - foundSec σ
def spLargest (σ : St) : Int := if roomN σ < 40 then roomN σ else 40
def spFilesLeft (σ : St) (size : Int) : Int := if ¬ (1 ≤ size ∧ size ≤ 40) then -2 else (roomN σ / size.toNat : Nat)
def eachN (σ : St) (size : Nat) : Nat := match opn σ with
  | some n => if 240 < nx σ + size + se σ n 4 then 0 else 1 + min (12 - mn σ) ((240 - (nx σ + size + se σ n 4)) / (size + s0 σ + s1 σ))
  | none => min (12 - mn σ) ((240 - nx σ) / (size + s0 σ + s1 σ))
def spFilesEach (σ : St) (size : Int) : Int := if ¬ (1 ≤ size ∧ size ≤ 40) then -2 else eachN σ size.toNat
def spValidIf (σ : St) (sector : Int) : Int := if ¬ (0 ≤ sector ∧ sector < 240) then -1 else oI (validD σ (dmH σ sector))
def worstN (σ : St) : Nat := (worstA (fun k => cntIntact σ (dmH σ k)) 240).1
/-! texts: the sign at a place (-6 behind the end) -/
def hr (tx : Nat → Int) (len p : Nat) : Int := if p < len then tx p else -6
def isDg (x : Int) : Prop := 48 ≤ x ∧ x ≤ 57
/-- further digits of a number -/
def pLoop (tx : Nat → Int) (len most v p : Nat) : Nat × Nat :=
  if h : 0 < v ∧ (48 ≤ hr tx len p ∧ hr tx len p ≤ 57) ∧ 10 * v + (hr tx len p - 48).toNat ≤ most then pLoop tx len most (10 * v + (hr tx len p - 48).toNat) (p + 1) else (v, p)
termination_by most - v
decreasing_by omega
/-- a number, and the place behind it; none: a fault at that place -/
def pNum (tx : Nat → Int) (len p least most : Nat) : Nat × Option Nat :=
  if (48 ≤ hr tx len p ∧ hr tx len p ≤ 57) ∧ least ≤ (hr tx len p - 48).toNat ∧ (hr tx len p - 48).toNat ≤ most then
    ((pLoop tx len most (hr tx len p - 48).toNat (p + 1)).2, some (pLoop tx len most (hr tx len p - 48).toNat (p + 1)).1)
  else (p, none)
/-- a second number behind a sign -/
def pSec (tx : Nat → Int) (len : Nat) (c : Int) (sign : Int) (least most q a : Nat) : Nat × Option (Int × Nat × Nat) :=
  if hr tx len q = sign then ((pNum tx len (q + 1) least most).1, (pNum tx len (q + 1) least most).2.map (fun b => (c, a, b))) else (q, none)
def pCmd (tx : Nat → Int) (len p : Nat) : Nat × Option (Int × Nat × Nat) :=
  if hr tx len p = 99 ∨ hr tx len p = 101 then (p + 1, some (hr tx len p, 0, 0))
  else if hr tx len p = 98 then ((pNum tx len (p + 1) 0 1).1, (pNum tx len (p + 1) 0 1).2.map (fun a => (98, a, 0)))
  else if hr tx len p = 114 then ((pNum tx len (p + 1) 0 19).1, (pNum tx len (p + 1) 0 19).2.map (fun a => (114, a, 0)))
  else if hr tx len p = 100 then ((pNum tx len (p + 1) 0 239).1, (pNum tx len (p + 1) 0 239).2.map (fun a => (100, a, 0)))
  else if hr tx len p = 119 then match (pNum tx len (p + 1) 0 19).2 with
    | none => ((pNum tx len (p + 1) 0 19).1, none)
    | some a => pSec tx len 119 61 1 40 (pNum tx len (p + 1) 0 19).1 a
  else if hr tx len p = 107 then match (pNum tx len (p + 1) 0 19).2 with
    | none => ((pNum tx len (p + 1) 0 19).1, none)
    | some a => pSec tx len 107 46 0 11 (pNum tx len (p + 1) 0 19).1 a
  else (p, none)
/-- the fault of a text, read from p on -/
def pFlt (tx : Nat → Int) (len p : Nat) : Int :=
  if (pCmd tx len p).2 = none then (pCmd tx len p).1
  else if len ≤ (pCmd tx len p).1 then -6
  else if h : hr tx len (pCmd tx len p).1 = 59 ∧ p ≤ (pCmd tx len p).1 ∧ (pCmd tx len p).1 < len then pFlt tx len ((pCmd tx len p).1 + 1)
  else (pCmd tx len p).1
termination_by len - p
decreasing_by omega
def spCmd (σ : St) (q : Int × Nat × Nat) : Int × St :=
  if q.1 = 98 then spBegin σ q.2.1 else if q.1 = 119 then spWrite σ q.2.1 q.2.2 else if q.1 = 114 then spRemove σ q.2.1 else if q.1 = 107 then spKeep σ q.2.1 q.2.2
  else if q.1 = 99 then spClose σ else if q.1 = 101 then spEject σ else spDamage σ q.2.1
/-- the commands from p on are done, to the first with an error -/
def pRun (tx : Nat → Int) (len : Nat) (σ : St) (p k : Nat) : Nat × St :=
  if h : p < len then
    match (pCmd tx len p).2 with
    | none => (k, σ)
    | some q => if (spCmd σ q).1 < 0 then (k, σ) else if hq : p ≤ (pCmd tx len p).1 then pRun tx len (spCmd σ q).2 ((pCmd tx len p).1 + 1) (k + 1) else (k, σ)
  else (k, σ)
termination_by len - p
decreasing_by omega
/-- a state is recorded: at most four -/
def recd (hs : List St) (σ : St) : List St := (if hs.length = 4 then hs.tail else hs) ++ [σ]
end
section
/-! what the heap holds for a state -/
def TabOk (fl : Nat → Option Fil) (t : Nat → Option Nat) (e : Nat → Option Fil) : Prop := ∀ k, k < 20 → (t k).bind fl = e k ∧ ∀ a, t k = some a → ∃ f, fl a = some f
def FlAt (G : GG) (fb : Nat) (fl : Nat → Option Fil) (H : Heap) : Prop := G.2.2 ≤ fb ∧ ∀ a f, fl a = some f → fb ≤ a ∧ Ob G a 4 [.int (iI f.1), .int (iI f.2.1), .int (iI f.2.2)] H
def Ext (fl fl' : Nat → Option Fil) : Prop := ∀ a f, fl a = some f → fl' a = some f
theorem Ext.rf {fl : Nat → Option Fil} : Ext fl fl := fun _ _ h => h
theorem Ext.trans {f1 f2 f3 : Nat → Option Fil} (h1 : Ext f1 f2) (h2 : Ext f2 f3) : Ext f1 f3 := fun a f h => h2 a f (h1 a f h)
/-- a session of any contents at a, its table behind it -/
def SesD (G : GG) (a : Nat) (H : Heap) : Prop := ∃ (w : Nat → Int32) (t : Nat → Option Nat), Ob G a 3 [.ref (a + 1), .int (w 0), .int (w 1), .int (w 2), .int (w 3), .int (w 4), .int (w 5)] H ∧ Ra G (a + 1) 4 20 t H
/-- a session that holds a row and a table -/
def SesL (G : GG) (a : Nat) (fl : Nat → Option Fil) (row : Nat → Nat) (tab : Nat → Option Fil) (H : Heap) : Prop := ∃ (t : Nat → Option Nat), Ob G a 3 [.ref (a + 1), .int (iI (row 0)), .int (iI (row 1)), .int (iI ((row 1 : Int) + (row 2 : Int))), .int (iI (row 3)), .int (iI (row 4)), .int (iI (row 5))] H ∧ Ra G (a + 1) 4 20 t H ∧ TabOk fl t tab
theorem SesL.dead {G : GG} {a : Nat} {fl : Nat → Option Fil} {row : Nat → Nat} {tab : Nat → Option Fil} {H : Heap} (h : SesL G a fl row tab H) : SesD G a H := by
  obtain ⟨t, h1, h2, -⟩ := h
  exact ⟨fun k => if k = 0 then iI (row 0) else if k = 1 then iI (row 1) else if k = 2 then iI ((row 1 : Int) + (row 2 : Int)) else if k = 3 then iI (row 3) else if k = 4 then iI (row 4) else iI (row 5), t, h1, h2⟩
theorem TabOk.ext {fl fl' : Nat → Option Fil} {t : Nat → Option Nat} {e : Nat → Option Fil} (h : TabOk fl t e) (hE : Ext fl fl') : TabOk fl' t e := by
  intro k hk
  obtain ⟨h1, h2⟩ := h k hk
  refine ⟨?_, fun a ha => ?_⟩
  · cases ht : t k with
    | none => rw [ht] at h1; exact h1
    | some a =>
      obtain ⟨f, hf⟩ := h2 a ht
      rw [ht] at h1
      rw [← h1]
      show fl' a = fl a
      rw [hf, hE a f hf]
  · obtain ⟨f, hf⟩ := h2 a ha
    exact ⟨f, hE a f hf⟩
theorem TabOk.to {fl : Nat → Option Fil} {t : Nat → Option Nat} {e e' : Nat → Option Fil} (h : TabOk fl t e) (he : ∀ k, k < 20 → e k = e' k) : TabOk fl t e' := fun k hk => ⟨(h k hk).1.trans (he k hk), (h k hk).2⟩
theorem SesD.kept {G : GG} {a : Nat} {H H1 : Heap} (h : SesD G a H) (e0 : H1[a]? = H[a]?) (e1 : H1[a + 1]? = H[a + 1]?) : SesD G a H1 := by
  obtain ⟨w, t, h1, h2⟩ := h
  exact ⟨w, t, h1.kept e0, h2.kept e1⟩
theorem SesL.kept {G : GG} {a : Nat} {fl : Nat → Option Fil} {row : Nat → Nat} {tab : Nat → Option Fil} {H H1 : Heap} (h : SesL G a fl row tab H) (e0 : H1[a]? = H[a]?) (e1 : H1[a + 1]? = H[a + 1]?) : SesL G a fl row tab H1 := by
  obtain ⟨t, h1, h2, h3⟩ := h
  exact ⟨t, h1.kept e0, h2.kept e1, h3⟩
theorem SesL.ext {G : GG} {a : Nat} {fl fl' : Nat → Option Fil} {row : Nat → Nat} {tab : Nat → Option Fil} {H : Heap} (h : SesL G a fl row tab H) (hE : Ext fl fl') : SesL G a fl' row tab H := by
  obtain ⟨t, h1, h2, h3⟩ := h
  exact ⟨t, h1, h2, h3.ext hE⟩
theorem SesL.to {G : GG} {a : Nat} {fl : Nat → Option Fil} {row row' : Nat → Nat} {tab tab' : Nat → Option Fil} {H : Heap} (h : SesL G a fl row tab H) (hr : ∀ k, k < 6 → row k = row' k) (ht : ∀ k, k < 20 → tab k = tab' k) : SesL G a fl row' tab' H := by
  obtain ⟨t, h1, h2, h3⟩ := h
  refine ⟨t, ?_, h2, h3.to ht⟩
  rw [← hr 0 (by decide), ← hr 1 (by decide), ← hr 2 (by decide), ← hr 3 (by decide), ← hr 4 (by decide), ← hr 5 (by decide)]
  exact h1
theorem FlAt.kept {G : GG} {fb : Nat} {fl : Nat → Option Fil} {H H1 : Heap} (h : FlAt G fb fl H) (e : ∀ q, fb ≤ q → q < H.size → H1[q]? = H[q]?) : FlAt G fb fl H1 :=
  ⟨h.1, fun a f hf => ⟨(h.2 a f hf).1, (h.2 a f hf).2.kept (e a (h.2 a f hf).1 (h.2 a f hf).2.lt)⟩⟩
/-- a disc at b: 29 cells -/
def DiscAt (G : GG) (b : Nat) (fl : Nat → Option Fil) (σ : St) (H : Heap) : Prop :=
  Ob G b 1 [.ref (b + 1), .ref (b + 2), .ref (b + 3), .ref (b + 4), .int (iI (mn σ)), .int (iI (nx σ)), .int (iI (cntB (dm σ) 240))] H ∧
  Ra G (b + 1) 3 12 (fun k => some (b + 5 + 2 * k)) H ∧ Ia G (b + 2) 1 240 (fun k => b2i (dm σ k)) H ∧ Ia G (b + 3) 0 20 (fun k => iI (vr σ k)) H ∧ Ia G (b + 4) 0 2 (fun k => if k = 0 then iI (s0 σ) else iI (s1 σ)) H ∧
  (∀ n, n < 12 → SesD G (b + 5 + 2 * n) H) ∧ ∀ n, n < mn σ → n < 12 → SesL G (b + 5 + 2 * n) fl (se σ n) (en σ n) H
theorem DiscAt.kept {G : GG} {b : Nat} {fl : Nat → Option Fil} {σ : St} {H H1 : Heap} (h : DiscAt G b fl σ H) (e : ∀ q, b ≤ q → q < b + 29 → H1[q]? = H[q]?) : DiscAt G b fl σ H1 := by
  obtain ⟨h1, h2, h3, h4, h5, h6, h7⟩ := h
  refine ⟨h1.kept (e _ (by omega) (by omega)), h2.kept (e _ (by omega) (by omega)), h3.kept (e _ (by omega) (by omega)), h4.kept (e _ (by omega) (by omega)), h5.kept (e _ (by omega) (by omega)), fun n hn => (h6 n hn).kept (e _ (by omega) (by omega)) (e _ (by omega) (by omega)), fun n hn hn2 => (h7 n hn hn2).kept (e _ (by omega) (by omega)) (e _ (by omega) (by omega))⟩
theorem DiscAt.ext {G : GG} {b : Nat} {fl fl' : Nat → Option Fil} {σ : St} {H : Heap} (h : DiscAt G b fl σ H) (hE : Ext fl fl') : DiscAt G b fl' σ H := by
  obtain ⟨h1, h2, h3, h4, h5, h6, h7⟩ := h
  exact ⟨h1, h2, h3, h4, h5, h6, fun n hn hn2 => (h7 n hn hn2).ext hE⟩
/-- the disc's cells lie below the heap's end -/
theorem DiscAt.lt {G : GG} {b : Nat} {fl : Nat → Option Fil} {σ : St} {H : Heap} (h : DiscAt G b fl σ H) : b + 29 ≤ H.size := by
  obtain ⟨w, t, -, h2⟩ := h.2.2.2.2.2.1 11 (by decide)
  have := h2.lt
  omega
/-- the same disc, told of another state that agrees where it counts -/
theorem DiscAt.to {G : GG} {b : Nat} {fl : Nat → Option Fil} {σ τ : St} {H : Heap} (h : DiscAt G b fl σ H) (e1 : nx σ = nx τ) (e2 : mn σ = mn τ) (e3 : s0 σ = s0 τ) (e4 : s1 σ = s1 τ) (e5 : ∀ k, dm σ k = dm τ k) (e6 : ∀ k, k < 20 → vr σ k = vr τ k) (e7 : ∀ n, n < mn σ → ∀ k, k < 6 → se σ n k = se τ n k) (e8 : ∀ n, n < mn σ → ∀ k, k < 20 → en σ n k = en τ n k) : DiscAt G b fl τ H := by
  obtain ⟨h1, h2, h3, h4, h5, h6, h7⟩ := h
  have e5' : dm σ = dm τ := funext e5
  refine ⟨by rw [← e1, ← e2, ← e5']; exact h1, h2, by rw [← e5']; exact h3, h4.to (fun j hj => by rw [e6 j hj]), by rw [← e3, ← e4]; exact h5, h6, fun n hn hn2 => ?_⟩
  rw [← e2] at hn
  exact (h7 n hn hn2).to (e7 n hn) (e8 n hn)
def upSe (σ : St) (n : Nat) (row : Nat → Nat) (tab : Nat → Option Fil) : St := mkS (nx σ) (mn σ) (s0 σ) (s1 σ) (dm σ) (vr σ) (va_up (se σ) n row) (va_up (en σ) n tab)
theorem up_s {α : Type} {f : Nat → α} {k : Nat} {v : α} : va_up f k v k = v := by simp [va_up]
theorem up_n {α : Type} {f : Nat → α} {k j : Nat} {v : α} (h : j ≠ k) : va_up f k v j = f j := by simp [va_up, h]
/-- one session has changed -/
theorem DiscAt.ses {G : GG} {b n : Nat} {fl : Nat → Option Fil} {σ : St} {H H1 : Heap} {row : Nat → Nat} {tab : Nat → Option Fil} (h : DiscAt G b fl σ H) (hn : n < 12) (hs : SesL G (b + 5 + 2 * n) fl row tab H1) (e : ∀ q, b ≤ q → q < b + 29 → q ≠ b + 5 + 2 * n → q ≠ b + 6 + 2 * n → H1[q]? = H[q]?) : DiscAt G b fl (upSe σ n row tab) H1 := by
  obtain ⟨h1, h2, h3, h4, h5, h6, h7⟩ := h
  refine ⟨h1.kept (e _ (by omega) (by omega) (by omega) (by omega)), h2.kept (e _ (by omega) (by omega) (by omega) (by omega)), h3.kept (e _ (by omega) (by omega) (by omega) (by omega)), h4.kept (e _ (by omega) (by omega) (by omega) (by omega)), h5.kept (e _ (by omega) (by omega) (by omega) (by omega)), fun k hk => ?_, fun k hk hk2 => ?_⟩
  · by_cases hkn : k = n
    · subst hkn; exact hs.dead
    · exact (h6 k hk).kept (e _ (by omega) (by omega) (by omega) (by omega)) (e _ (by omega) (by omega) (by omega) (by omega))
  · by_cases hkn : k = n
    · subst hkn
      show SesL G _ fl (va_up (se σ) k row k) (va_up (en σ) k tab k) H1
      rw [up_s, up_s]; exact hs
    · show SesL G _ fl (va_up (se σ) n row k) (va_up (en σ) n tab k) H1
      rw [up_n hkn, up_n hkn]
      exact (h7 k hk hk2).kept (e _ (by omega) (by omega) (by omega) (by omega)) (e _ (by omega) (by omega) (by omega) (by omega))
/-- the disc's own cell has changed -/
theorem DiscAt.own {G : GG} {b : Nat} {fl : Nat → Option Fil} {σ τ : St} {H H1 : Heap} (h : DiscAt G b fl σ H) (ho : Ob G b 1 [.ref (b + 1), .ref (b + 2), .ref (b + 3), .ref (b + 4), .int (iI (mn τ)), .int (iI (nx τ)), .int (iI (cntB (dm τ) 240))] H1) (e3 : s0 σ = s0 τ) (e4 : s1 σ = s1 τ) (e5 : dm σ = dm τ) (e6 : vr σ = vr τ) (e : ∀ q, b < q → q < b + 29 → H1[q]? = H[q]?)
    (e7 : ∀ n, n < mn τ → n < 12 → SesL G (b + 5 + 2 * n) fl (se τ n) (en τ n) H1) : DiscAt G b fl τ H1 := by
  obtain ⟨h1, h2, h3, h4, h5, h6, h7⟩ := h
  exact ⟨ho, h2.kept (e _ (by omega) (by omega)), by rw [← e5]; exact h3.kept (e _ (by omega) (by omega)), by rw [← e6]; exact h4.kept (e _ (by omega) (by omega)), by rw [← e3, ← e4]; exact h5.kept (e _ (by omega) (by omega)), fun n hn => (h6 n hn).kept (e _ (by omega) (by omega)) (e _ (by omega) (by omega)), e7⟩
theorem DiscAt.live {G : GG} {b n : Nat} {fl : Nat → Option Fil} {σ : St} {H : Heap} (h : DiscAt G b fl σ H) (hn : n < mn σ) (hn2 : n < 12) : SesL G (b + 5 + 2 * n) fl (se σ n) (en σ n) H := h.2.2.2.2.2.2 n hn hn2
/-- new cells, and changes between lo and hi alone -/
def FrR (lo hi : Nat) (H H1 : Heap) : Prop := H.size ≤ H1.size ∧ ∀ q, q < H.size → (q < lo ∨ hi ≤ q) → H1[q]? = H[q]?
theorem FrR.rf {lo hi : Nat} {H : Heap} : FrR lo hi H H := ⟨Nat.le_refl _, fun _ _ _ => rfl⟩
theorem FrR.trans {lo hi : Nat} {H H1 H2 : Heap} (h1 : FrR lo hi H H1) (h2 : FrR lo hi H1 H2) : FrR lo hi H H2 := ⟨Nat.le_trans h1.1 h2.1, fun q hq ho => (h2.2 q (Nat.lt_of_lt_of_le hq h1.1) ho).trans (h1.2 q hq ho)⟩
theorem FrR.wide {lo hi lo' hi' : Nat} {H H1 : Heap} (h : FrR lo hi H H1) (h1 : lo' ≤ lo) (h2 : hi ≤ hi') : FrR lo' hi' H H1 := ⟨h.1, fun q hq ho => h.2 q hq (by omega)⟩
theorem FrR.of1 {lo hi a : Nat} {H H1 : Heap} (h : Fr1 a H H1) (h1 : lo ≤ a) (h2 : a < hi) : FrR lo hi H H1 := ⟨Nat.le_of_eq h.1.symm, fun q _ ho => h.2 q (by omega)⟩
theorem FrR.pu {lo hi : Nat} {H H1 : Heap} (h : Pu H H1) : FrR lo hi H H1 := ⟨by rw [h.1]; omega, fun q hq _ => h.2 q hq⟩
/-- nothing but the cells lo .. hi has changed, and none has come -/
def FrS (lo hi : Nat) (H H1 : Heap) : Prop := H1.size = H.size ∧ ∀ q, (q < lo ∨ hi ≤ q) → H1[q]? = H[q]?
theorem FrS.rf {lo hi : Nat} {H : Heap} : FrS lo hi H H := ⟨rfl, fun _ _ => rfl⟩
theorem FrS.trans {lo hi : Nat} {H H1 H2 : Heap} (h1 : FrS lo hi H H1) (h2 : FrS lo hi H1 H2) : FrS lo hi H H2 := ⟨h2.1.trans h1.1, fun q ho => (h2.2 q ho).trans (h1.2 q ho)⟩
theorem FrS.wide {lo hi lo' hi' : Nat} {H H1 : Heap} (h : FrS lo hi H H1) (h1 : lo' ≤ lo) (h2 : hi ≤ hi') : FrS lo' hi' H H1 := ⟨h.1, fun q ho => h.2 q (by omega)⟩
theorem FrS.of1 {lo hi a : Nat} {H H1 : Heap} (h : Fr1 a H H1) (h1 : lo ≤ a) (h2 : a < hi) : FrS lo hi H H1 := ⟨h.1, fun q ho => h.2 q (by omega)⟩
theorem FrS.R {lo hi : Nat} {H H1 : Heap} (h : FrS lo hi H H1) : FrR lo hi H H1 := ⟨Nat.le_of_eq h.1.symm, fun q _ ho => h.2 q ho⟩
theorem FlAt.S {G : GG} {fb lo hi : Nat} {fl : Nat → Option Fil} {H H1 : Heap} (h : FlAt G fb fl H) (e : FrS lo hi H H1) (hh : hi ≤ fb) : FlAt G fb fl H1 := h.kept (fun q hq _ => e.2 q (by omega))
theorem FlAt.R {G : GG} {fb lo hi : Nat} {fl : Nat → Option Fil} {H H1 : Heap} (h : FlAt G fb fl H) (e : FrR lo hi H H1) (hh : hi ≤ fb) : FlAt G fb fl H1 := h.kept (fun q hq h2 => e.2 q h2 (by omega))
/-- answers only -/
def RO (P : Int32 → Prop) : Option Value → Heap → Heap → Prop := PI (fun r H H1 => H1 = H ∧ P r)
theorem RO.mk {P : Int32 → Prop} {r : Int32} {H : Heap} (h : P r) : RO P (some (.int r)) H H := ⟨r, rfl, rfl, h⟩
end
section
/-! calls by what comes back: an answer alone (RE), a reference alone (QE), an answer and changes (WE), changes alone (WV) -/
def RE (x : Int32) : Option Value → Heap → Heap → Prop := fun v H H1 => v = some (.int x) ∧ H1 = H
def QE (r : Option Nat) : Option Value → Heap → Heap → Prop := fun v H H1 => v = some (va_rf r) ∧ H1 = H
def WE (x : Int32) (Q : Heap → Heap → Prop) : Option Value → Heap → Heap → Prop := fun v H H1 => v = some (.int x) ∧ Q H H1
def WV (Q : Heap → Heap → Prop) : Option Value → Heap → Heap → Prop := fun v H H1 => v = none ∧ Q H H1
section MCC
variable {p : Program} {l : Launch} {e : Env} {R : Room} {s : State} {m : MethodId} {args : Array Value} {below : List Frame} {meth : Method} {c : Code} {H : Heap} {locs : List Loc} {cells slots : Nat} {Q : State → Prop}
variable {G : GG} {cc : ByteArray} {n : Nat} {ret : Option FieldType} {own : String} {pc : Nat} {ls : Array Slot} {st rest : List Value}
theorem kVRE (E : En G p s m args meth c cc n ret own) {y : MethodName} {b : ByteArray} {mL k idx : Nat} {ret' : Option FieldType} {a ci : Nat} {fs : List Value} {rm' : Room} {As : List Value} {Pre : Heap → Prop} {x : Int32} (hC : CWV own idx y b mL ret' k) (hM : Ct G l y b mL ret' rm' (.ref a :: As) Pre (RE x)) (hO : Ob G a ci fs H) (hc : ∃ T N, vwCl[ci]? = some (y.cls, T, N)) (hp : Pre H) (hL : Lk G locs) (hls : ls.size = n) (hst : st = As.reverse ++ .ref a :: rest) (hk : As.length = k) (hW : (rest.map fun v => v.category).sum ≤ 8) (hR : rm'.frames + 1 ≤ R.frames ∧ 8 + (mL + 11) + rm'.locals ≤ R.locals) (hz : rm'.cells = 0 ∧ rm'.slots = 0) (hf : cells ≤ R.cells ∧ slots ≤ R.slots) (hdg : decode cc pc = .ok (.invokevirtual idx, 3))
    (kk : ∀ (locs1 : List Loc), Lk G locs1 → W p l e R s m args below meth c H locs1 cells slots Q (F0 m (pc + 3) ls (.int x :: rest))) : W p l e R s m args below meth c H locs cells slots Q (F0 m pc ls st) :=
  m_callV E hC hM hO hc hp hL hls hst hk hW hR (by rw [hz.1, hz.2]; exact hf) hdg (fun v H1 locs1 hL1 hv => by
    obtain ⟨rfl, rfl⟩ := hv
    rw [hz.1, hz.2]
    exact kk locs1 hL1)
theorem kVQE (E : En G p s m args meth c cc n ret own) {y : MethodName} {b : ByteArray} {mL k idx : Nat} {ret' : Option FieldType} {a ci : Nat} {fs : List Value} {rm' : Room} {As : List Value} {Pre : Heap → Prop} {r : Option Nat} (hC : CWV own idx y b mL ret' k) (hM : Ct G l y b mL ret' rm' (.ref a :: As) Pre (QE r)) (hO : Ob G a ci fs H) (hc : ∃ T N, vwCl[ci]? = some (y.cls, T, N)) (hp : Pre H) (hL : Lk G locs) (hls : ls.size = n) (hst : st = As.reverse ++ .ref a :: rest) (hk : As.length = k) (hW : (rest.map fun v => v.category).sum ≤ 8) (hR : rm'.frames + 1 ≤ R.frames ∧ 8 + (mL + 11) + rm'.locals ≤ R.locals) (hz : rm'.cells = 0 ∧ rm'.slots = 0) (hf : cells ≤ R.cells ∧ slots ≤ R.slots) (hdg : decode cc pc = .ok (.invokevirtual idx, 3))
    (kk : ∀ (locs1 : List Loc), Lk G locs1 → W p l e R s m args below meth c H locs1 cells slots Q (F0 m (pc + 3) ls (va_rf r :: rest))) : W p l e R s m args below meth c H locs cells slots Q (F0 m pc ls st) :=
  m_callV E hC hM hO hc hp hL hls hst hk hW hR (by rw [hz.1, hz.2]; exact hf) hdg (fun v H1 locs1 hL1 hv => by
    obtain ⟨rfl, rfl⟩ := hv
    rw [hz.1, hz.2]
    exact kk locs1 hL1)
theorem kVWE (E : En G p s m args meth c cc n ret own) {y : MethodName} {b : ByteArray} {mL k idx : Nat} {ret' : Option FieldType} {a ci : Nat} {fs : List Value} {rm' : Room} {As : List Value} {Pre : Heap → Prop} {x : Int32} {Qp : Heap → Heap → Prop} (hC : CWV own idx y b mL ret' k) (hM : Ct G l y b mL ret' rm' (.ref a :: As) Pre (WE x Qp)) (hO : Ob G a ci fs H) (hc : ∃ T N, vwCl[ci]? = some (y.cls, T, N)) (hp : Pre H) (hL : Lk G locs) (hls : ls.size = n) (hst : st = As.reverse ++ .ref a :: rest) (hk : As.length = k) (hW : (rest.map fun v => v.category).sum ≤ 8) (hR : rm'.frames + 1 ≤ R.frames ∧ 8 + (mL + 11) + rm'.locals ≤ R.locals) (hf : cells + rm'.cells ≤ R.cells ∧ slots + rm'.slots ≤ R.slots) (hdg : decode cc pc = .ok (.invokevirtual idx, 3))
    (kk : ∀ (H1 : Heap) (locs1 : List Loc), Lk G locs1 → Qp H H1 → W p l e R s m args below meth c H1 locs1 (cells + rm'.cells) (slots + rm'.slots) Q (F0 m (pc + 3) ls (.int x :: rest))) : W p l e R s m args below meth c H locs cells slots Q (F0 m pc ls st) :=
  m_callV E hC hM hO hc hp hL hls hst hk hW hR hf hdg (fun v H1 locs1 hL1 hv => by
    obtain ⟨rfl, hv⟩ := hv
    exact kk H1 locs1 hL1 hv)
theorem kVWV (E : En G p s m args meth c cc n ret own) {y : MethodName} {b : ByteArray} {mL k idx : Nat} {ret' : Option FieldType} {a ci : Nat} {fs : List Value} {rm' : Room} {As : List Value} {Pre : Heap → Prop} {Qp : Heap → Heap → Prop} (hC : CWV own idx y b mL ret' k) (hM : Ct G l y b mL ret' rm' (.ref a :: As) Pre (WV Qp)) (hO : Ob G a ci fs H) (hc : ∃ T N, vwCl[ci]? = some (y.cls, T, N)) (hp : Pre H) (hL : Lk G locs) (hls : ls.size = n) (hst : st = As.reverse ++ .ref a :: rest) (hk : As.length = k) (hW : (rest.map fun v => v.category).sum ≤ 8) (hR : rm'.frames + 1 ≤ R.frames ∧ 8 + (mL + 11) + rm'.locals ≤ R.locals) (hf : cells + rm'.cells ≤ R.cells ∧ slots + rm'.slots ≤ R.slots) (hdg : decode cc pc = .ok (.invokevirtual idx, 3))
    (kk : ∀ (H1 : Heap) (locs1 : List Loc), Lk G locs1 → Qp H H1 → W p l e R s m args below meth c H1 locs1 (cells + rm'.cells) (slots + rm'.slots) Q (F0 m (pc + 3) ls (rest))) : W p l e R s m args below meth c H locs cells slots Q (F0 m pc ls st) :=
  m_callV E hC hM hO hc hp hL hls hst hk hW hR hf hdg (fun v H1 locs1 hL1 hv => by
    obtain ⟨rfl, hv⟩ := hv
    exact kk H1 locs1 hL1 hv)
theorem kSRE (E : En G p s m args meth c cc n ret own) {y : MethodName} {b : ByteArray} {mL k idx : Nat} {ret' : Option FieldType} {rm' : Room} {As : List Value} {Pre : Heap → Prop} {x : Int32} (hC : CWS own idx y b mL ret' k) (hM : Ct G l y b mL ret' rm' As Pre (RE x)) (hp : Pre H) (hL : Lk G locs) (hls : ls.size = n) (hst : st = As.reverse ++ rest) (hk : As.length = k) (hW : (rest.map fun v => v.category).sum ≤ 8) (hR : rm'.frames + 1 ≤ R.frames ∧ 8 + (mL + 11) + rm'.locals ≤ R.locals) (hz : rm'.cells = 0 ∧ rm'.slots = 0) (hf : cells ≤ R.cells ∧ slots ≤ R.slots) (hdg : decode cc pc = .ok (.invokestatic idx, 3))
    (kk : ∀ (locs1 : List Loc), Lk G locs1 → W p l e R s m args below meth c H locs1 cells slots Q (F0 m (pc + 3) ls (.int x :: rest))) : W p l e R s m args below meth c H locs cells slots Q (F0 m pc ls st) :=
  m_callS E hC hM hp hL hls hst hk hW hR (by rw [hz.1, hz.2]; exact hf) hdg (fun v H1 locs1 hL1 hv => by
    obtain ⟨rfl, rfl⟩ := hv
    rw [hz.1, hz.2]
    exact kk locs1 hL1)
theorem kSQE (E : En G p s m args meth c cc n ret own) {y : MethodName} {b : ByteArray} {mL k idx : Nat} {ret' : Option FieldType} {rm' : Room} {As : List Value} {Pre : Heap → Prop} {r : Option Nat} (hC : CWS own idx y b mL ret' k) (hM : Ct G l y b mL ret' rm' As Pre (QE r)) (hp : Pre H) (hL : Lk G locs) (hls : ls.size = n) (hst : st = As.reverse ++ rest) (hk : As.length = k) (hW : (rest.map fun v => v.category).sum ≤ 8) (hR : rm'.frames + 1 ≤ R.frames ∧ 8 + (mL + 11) + rm'.locals ≤ R.locals) (hz : rm'.cells = 0 ∧ rm'.slots = 0) (hf : cells ≤ R.cells ∧ slots ≤ R.slots) (hdg : decode cc pc = .ok (.invokestatic idx, 3))
    (kk : ∀ (locs1 : List Loc), Lk G locs1 → W p l e R s m args below meth c H locs1 cells slots Q (F0 m (pc + 3) ls (va_rf r :: rest))) : W p l e R s m args below meth c H locs cells slots Q (F0 m pc ls st) :=
  m_callS E hC hM hp hL hls hst hk hW hR (by rw [hz.1, hz.2]; exact hf) hdg (fun v H1 locs1 hL1 hv => by
    obtain ⟨rfl, rfl⟩ := hv
    rw [hz.1, hz.2]
    exact kk locs1 hL1)
theorem kSWE (E : En G p s m args meth c cc n ret own) {y : MethodName} {b : ByteArray} {mL k idx : Nat} {ret' : Option FieldType} {rm' : Room} {As : List Value} {Pre : Heap → Prop} {x : Int32} {Qp : Heap → Heap → Prop} (hC : CWS own idx y b mL ret' k) (hM : Ct G l y b mL ret' rm' As Pre (WE x Qp)) (hp : Pre H) (hL : Lk G locs) (hls : ls.size = n) (hst : st = As.reverse ++ rest) (hk : As.length = k) (hW : (rest.map fun v => v.category).sum ≤ 8) (hR : rm'.frames + 1 ≤ R.frames ∧ 8 + (mL + 11) + rm'.locals ≤ R.locals) (hf : cells + rm'.cells ≤ R.cells ∧ slots + rm'.slots ≤ R.slots) (hdg : decode cc pc = .ok (.invokestatic idx, 3))
    (kk : ∀ (H1 : Heap) (locs1 : List Loc), Lk G locs1 → Qp H H1 → W p l e R s m args below meth c H1 locs1 (cells + rm'.cells) (slots + rm'.slots) Q (F0 m (pc + 3) ls (.int x :: rest))) : W p l e R s m args below meth c H locs cells slots Q (F0 m pc ls st) :=
  m_callS E hC hM hp hL hls hst hk hW hR hf hdg (fun v H1 locs1 hL1 hv => by
    obtain ⟨rfl, hv⟩ := hv
    exact kk H1 locs1 hL1 hv)
theorem kSWV (E : En G p s m args meth c cc n ret own) {y : MethodName} {b : ByteArray} {mL k idx : Nat} {ret' : Option FieldType} {rm' : Room} {As : List Value} {Pre : Heap → Prop} {Qp : Heap → Heap → Prop} (hC : CWS own idx y b mL ret' k) (hM : Ct G l y b mL ret' rm' As Pre (WV Qp)) (hp : Pre H) (hL : Lk G locs) (hls : ls.size = n) (hst : st = As.reverse ++ rest) (hk : As.length = k) (hW : (rest.map fun v => v.category).sum ≤ 8) (hR : rm'.frames + 1 ≤ R.frames ∧ 8 + (mL + 11) + rm'.locals ≤ R.locals) (hf : cells + rm'.cells ≤ R.cells ∧ slots + rm'.slots ≤ R.slots) (hdg : decode cc pc = .ok (.invokestatic idx, 3))
    (kk : ∀ (H1 : Heap) (locs1 : List Loc), Lk G locs1 → Qp H H1 → W p l e R s m args below meth c H1 locs1 (cells + rm'.cells) (slots + rm'.slots) Q (F0 m (pc + 3) ls (rest))) : W p l e R s m args below meth c H locs cells slots Q (F0 m pc ls st) :=
  m_callS E hC hM hp hL hls hst hk hW hR hf hdg (fun v H1 locs1 hL1 hv => by
    obtain ⟨rfl, hv⟩ := hv
    exact kk H1 locs1 hL1 hv)
theorem kSNRE (E : En G p s m args meth c cc n ret own) {y : MethodName} {b : ByteArray} {mL k idx : Nat} {ret' : Option FieldType} {rm' : Room} {As : List Value} {Pre : Heap → Prop} {x : Int32} (hC : CWSN nestW own idx y b mL ret' k) (hM : Ct G l y b mL ret' rm' As Pre (RE x)) (hp : Pre H) (hL : Lk G locs) (hls : ls.size = n) (hst : st = As.reverse ++ rest) (hk : As.length = k) (hW : (rest.map fun v => v.category).sum ≤ 8) (hR : rm'.frames + 1 ≤ R.frames ∧ 8 + (mL + 11) + rm'.locals ≤ R.locals) (hz : rm'.cells = 0 ∧ rm'.slots = 0) (hf : cells ≤ R.cells ∧ slots ≤ R.slots) (hdg : decode cc pc = .ok (.invokestatic idx, 3))
    (kk : ∀ (locs1 : List Loc), Lk G locs1 → W p l e R s m args below meth c H locs1 cells slots Q (F0 m (pc + 3) ls (.int x :: rest))) : W p l e R s m args below meth c H locs cells slots Q (F0 m pc ls st) :=
  m_callSN E hC hM hp hL hls hst hk hW hR (by rw [hz.1, hz.2]; exact hf) hdg (fun v H1 locs1 hL1 hv => by
    obtain ⟨rfl, rfl⟩ := hv
    rw [hz.1, hz.2]
    exact kk locs1 hL1)
theorem kSNQE (E : En G p s m args meth c cc n ret own) {y : MethodName} {b : ByteArray} {mL k idx : Nat} {ret' : Option FieldType} {rm' : Room} {As : List Value} {Pre : Heap → Prop} {r : Option Nat} (hC : CWSN nestW own idx y b mL ret' k) (hM : Ct G l y b mL ret' rm' As Pre (QE r)) (hp : Pre H) (hL : Lk G locs) (hls : ls.size = n) (hst : st = As.reverse ++ rest) (hk : As.length = k) (hW : (rest.map fun v => v.category).sum ≤ 8) (hR : rm'.frames + 1 ≤ R.frames ∧ 8 + (mL + 11) + rm'.locals ≤ R.locals) (hz : rm'.cells = 0 ∧ rm'.slots = 0) (hf : cells ≤ R.cells ∧ slots ≤ R.slots) (hdg : decode cc pc = .ok (.invokestatic idx, 3))
    (kk : ∀ (locs1 : List Loc), Lk G locs1 → W p l e R s m args below meth c H locs1 cells slots Q (F0 m (pc + 3) ls (va_rf r :: rest))) : W p l e R s m args below meth c H locs cells slots Q (F0 m pc ls st) :=
  m_callSN E hC hM hp hL hls hst hk hW hR (by rw [hz.1, hz.2]; exact hf) hdg (fun v H1 locs1 hL1 hv => by
    obtain ⟨rfl, rfl⟩ := hv
    rw [hz.1, hz.2]
    exact kk locs1 hL1)
theorem kSNWE (E : En G p s m args meth c cc n ret own) {y : MethodName} {b : ByteArray} {mL k idx : Nat} {ret' : Option FieldType} {rm' : Room} {As : List Value} {Pre : Heap → Prop} {x : Int32} {Qp : Heap → Heap → Prop} (hC : CWSN nestW own idx y b mL ret' k) (hM : Ct G l y b mL ret' rm' As Pre (WE x Qp)) (hp : Pre H) (hL : Lk G locs) (hls : ls.size = n) (hst : st = As.reverse ++ rest) (hk : As.length = k) (hW : (rest.map fun v => v.category).sum ≤ 8) (hR : rm'.frames + 1 ≤ R.frames ∧ 8 + (mL + 11) + rm'.locals ≤ R.locals) (hf : cells + rm'.cells ≤ R.cells ∧ slots + rm'.slots ≤ R.slots) (hdg : decode cc pc = .ok (.invokestatic idx, 3))
    (kk : ∀ (H1 : Heap) (locs1 : List Loc), Lk G locs1 → Qp H H1 → W p l e R s m args below meth c H1 locs1 (cells + rm'.cells) (slots + rm'.slots) Q (F0 m (pc + 3) ls (.int x :: rest))) : W p l e R s m args below meth c H locs cells slots Q (F0 m pc ls st) :=
  m_callSN E hC hM hp hL hls hst hk hW hR hf hdg (fun v H1 locs1 hL1 hv => by
    obtain ⟨rfl, hv⟩ := hv
    exact kk H1 locs1 hL1 hv)
theorem kSNWV (E : En G p s m args meth c cc n ret own) {y : MethodName} {b : ByteArray} {mL k idx : Nat} {ret' : Option FieldType} {rm' : Room} {As : List Value} {Pre : Heap → Prop} {Qp : Heap → Heap → Prop} (hC : CWSN nestW own idx y b mL ret' k) (hM : Ct G l y b mL ret' rm' As Pre (WV Qp)) (hp : Pre H) (hL : Lk G locs) (hls : ls.size = n) (hst : st = As.reverse ++ rest) (hk : As.length = k) (hW : (rest.map fun v => v.category).sum ≤ 8) (hR : rm'.frames + 1 ≤ R.frames ∧ 8 + (mL + 11) + rm'.locals ≤ R.locals) (hf : cells + rm'.cells ≤ R.cells ∧ slots + rm'.slots ≤ R.slots) (hdg : decode cc pc = .ok (.invokestatic idx, 3))
    (kk : ∀ (H1 : Heap) (locs1 : List Loc), Lk G locs1 → Qp H H1 → W p l e R s m args below meth c H1 locs1 (cells + rm'.cells) (slots + rm'.slots) Q (F0 m (pc + 3) ls (rest))) : W p l e R s m args below meth c H locs cells slots Q (F0 m pc ls st) :=
  m_callSN E hC hM hp hL hls hst hk hW hR hf hdg (fun v H1 locs1 hL1 hv => by
    obtain ⟨rfl, hv⟩ := hv
    exact kk H1 locs1 hL1 hv)
theorem kIWV (E : En G p s m args meth c cc n ret own) {y : MethodName} {b : ByteArray} {mL k idx : Nat} {a : Nat} {rm' : Room} {As : List Value} {Pre : Heap → Prop} {Qp : Heap → Heap → Prop} (hC : CWI own idx y b mL k) (hM : Ct G l y b mL none rm' (.ref a :: As) Pre (WV Qp)) (hp : Pre H) (hL : Lk G locs) (hls : ls.size = n) (hst : st = As.reverse ++ .ref a :: rest) (hk : As.length = k) (hW : (rest.map fun v => v.category).sum ≤ 8) (hR : rm'.frames + 1 ≤ R.frames ∧ 8 + (mL + 11) + rm'.locals ≤ R.locals) (hf : cells + rm'.cells ≤ R.cells ∧ slots + rm'.slots ≤ R.slots) (hdg : decode cc pc = .ok (.invokespecial idx, 3))
    (kk : ∀ (H1 : Heap) (locs1 : List Loc), Lk G locs1 → Qp H H1 → W p l e R s m args below meth c H1 locs1 (cells + rm'.cells) (slots + rm'.slots) Q (F0 m (pc + 3) ls (rest))) : W p l e R s m args below meth c H locs cells slots Q (F0 m pc ls st) :=
  m_callI E hC hM hp hL hls hst hk hW hR hf hdg (fun v H1 locs1 hL1 hv => by
    obtain ⟨rfl, hv⟩ := hv
    exact kk H1 locs1 hL1 hv)
theorem kINWV (E : En G p s m args meth c cc n ret own) {y : MethodName} {b : ByteArray} {mL k idx : Nat} {a : Nat} {rm' : Room} {As : List Value} {Pre : Heap → Prop} {Qp : Heap → Heap → Prop} (hC : CWIN nestW own idx y b mL k) (hM : Ct G l y b mL none rm' (.ref a :: As) Pre (WV Qp)) (hp : Pre H) (hL : Lk G locs) (hls : ls.size = n) (hst : st = As.reverse ++ .ref a :: rest) (hk : As.length = k) (hW : (rest.map fun v => v.category).sum ≤ 8) (hR : rm'.frames + 1 ≤ R.frames ∧ 8 + (mL + 11) + rm'.locals ≤ R.locals) (hf : cells + rm'.cells ≤ R.cells ∧ slots + rm'.slots ≤ R.slots) (hdg : decode cc pc = .ok (.invokespecial idx, 3))
    (kk : ∀ (H1 : Heap) (locs1 : List Loc), Lk G locs1 → Qp H H1 → W p l e R s m args below meth c H1 locs1 (cells + rm'.cells) (slots + rm'.slots) Q (F0 m (pc + 3) ls (rest))) : W p l e R s m args below meth c H locs cells slots Q (F0 m pc ls st) :=
  m_callIN E hC hM hp hL hls hst hk hW hR hf hdg (fun v H1 locs1 hL1 hv => by
    obtain ⟨rfl, hv⟩ := hv
    exact kk H1 locs1 hL1 hv)
end MCC
/-! ends -/
theorem RE_i {z w : Int} {H : Heap} (h : z = w) : RE (iI w) (some (.int (iI z))) H H := ⟨by rw [h], rfl⟩
theorem RE_t {b : Bool} {H : Heap} (h : b = true) : RE (b2i b) (some (.int (iI 1))) H H := ⟨by rw [h]; rfl, rfl⟩
theorem RE_f {b : Bool} {H : Heap} (h : b = false) : RE (b2i b) (some (.int (iI 0))) H H := ⟨by rw [h]; rfl, rfl⟩
theorem RE_b {b c : Bool} {H : Heap} (h : b = c) : RE (b2i c) (some (.int (b2i b))) H H := ⟨by rw [h], rfl⟩
section MMX
variable {p : Program} {l : Launch} {e : Env} {R : Room} {s : State} {m : MethodId} {args : Array Value} {below : List Frame} {meth : Method} {c : Code} {H : Heap} {locs : List Loc} {cells slots : Nat} {Q : State → Prop}
variable {G : GG} {cc : ByteArray} {n : Nat} {ret : Option FieldType} {own : String} {pc : Nat} {ls : Array Slot} {rest : List Value}
theorem r_min (E : En G p s m args meth c cc n ret own) {idx : Nat} (hlk : Cond.methodLink own idx Lib.Math.min.name ∈ lw_all) (hls : ls.size = n) (hfr : 1 ≤ R.frames) (hlo : (rest.map fun v => v.category).sum + 13 ≤ R.locals) (hc : cells ≤ R.cells) (hs : slots ≤ R.slots) {a b : Int} (ha : -2147483648 ≤ a ∧ a < 2147483648) (hb : -2147483648 ≤ b ∧ b < 2147483648) (hdg : decode cc pc = .ok (.invokestatic idx, 3))
    (kk : ∀ z : Int, (z ≤ a ∧ z ≤ b ∧ (z = a ∨ z = b)) → W p l e R s m args below meth c H locs cells slots Q (F0 m (pc + 3) ls (.int (iI z) :: rest))) : W p l e R s m args below meth c H locs cells slots Q (F0 m pc ls (.int (iI b) :: .int (iI a) :: rest)) := by
  refine m_min E hlk hls hfr hlo hc hs hdg (fun z hz => ?_)
  by_cases h : b < a
  · rw [hz, if_pos ((iI_lt hb ha).mpr h)]
    exact kk b ⟨by omega, by omega, Or.inr rfl⟩
  · rw [hz, if_neg (fun q => h ((iI_lt hb ha).mp q))]
    exact kk a ⟨by omega, by omega, Or.inl rfl⟩
theorem r_max (E : En G p s m args meth c cc n ret own) {idx : Nat} (hlk : Cond.methodLink own idx Lib.Math.max.name ∈ lw_all) (hls : ls.size = n) (hfr : 1 ≤ R.frames) (hlo : (rest.map fun v => v.category).sum + 13 ≤ R.locals) (hc : cells ≤ R.cells) (hs : slots ≤ R.slots) {a b : Int} (ha : -2147483648 ≤ a ∧ a < 2147483648) (hb : -2147483648 ≤ b ∧ b < 2147483648) (hdg : decode cc pc = .ok (.invokestatic idx, 3))
    (kk : ∀ z : Int, (a ≤ z ∧ b ≤ z ∧ (z = a ∨ z = b)) → W p l e R s m args below meth c H locs cells slots Q (F0 m (pc + 3) ls (.int (iI z) :: rest))) : W p l e R s m args below meth c H locs cells slots Q (F0 m pc ls (.int (iI b) :: .int (iI a) :: rest)) := by
  refine m_max E hlk hls hfr hlo hc hs hdg (fun z hz => ?_)
  by_cases h : a < b
  · rw [hz, if_pos ((iI_lt ha hb).mpr h)]
    exact kk b ⟨by omega, by omega, Or.inr rfl⟩
  · rw [hz, if_neg (fun q => h ((iI_lt ha hb).mp q))]
    exact kk a ⟨by omega, by omega, Or.inl rfl⟩
end MMX
end
section
/-- a session's two cells as they are -/
def SesR (G : GG) (a : Nat) (w : Nat → Int32) (t : Nat → Option Nat) (H : Heap) : Prop := Ob G a 3 [.ref (a + 1), .int (w 0), .int (w 1), .int (w 2), .int (w 3), .int (w 4), .int (w 5)] H ∧ Ra G (a + 1) 4 20 t H
def encR (row : Nat → Nat) : Nat → Int32 := fun k => if k = 0 then iI (row 0) else if k = 1 then iI (row 1) else if k = 2 then iI ((row 1 : Int) + (row 2 : Int)) else if k = 3 then iI (row 3) else if k = 4 then iI (row 4) else iI (row 5)
theorem SesL.raw {G : GG} {a : Nat} {fl : Nat → Option Fil} {row : Nat → Nat} {tab : Nat → Option Fil} {H : Heap} (h : SesL G a fl row tab H) : ∃ t, SesR G a (encR row) t H ∧ TabOk fl t tab := by
  obtain ⟨t, h1, h2, h3⟩ := h
  exact ⟨t, ⟨h1, h2⟩, h3⟩
theorem SesR.live {G : GG} {a : Nat} {fl : Nat → Option Fil} {w : Nat → Int32} {row : Nat → Nat} {t : Nat → Option Nat} {tab : Nat → Option Fil} {H : Heap} (h : SesR G a w t H) (ht : TabOk fl t tab) (hw : w 0 = iI (row 0) ∧ w 1 = iI (row 1) ∧ w 2 = iI ((row 1 : Int) + (row 2 : Int)) ∧ w 3 = iI (row 3) ∧ w 4 = iI (row 4) ∧ w 5 = iI (row 5)) : SesL G a fl row tab H := by
  obtain ⟨e0, e1, e2, e3, e4, e5⟩ := hw
  refine ⟨t, ?_, h.2, ht⟩
  rw [← e0, ← e1, ← e2, ← e3, ← e4, ← e5]
  exact h.1
theorem SesR.kept {G : GG} {a : Nat} {w : Nat → Int32} {t : Nat → Option Nat} {H H1 : Heap} (h : SesR G a w t H) (e0 : H1[a]? = H[a]?) (e1 : H1[a + 1]? = H[a + 1]?) : SesR G a w t H1 := ⟨h.1.kept e0, h.2.kept e1⟩
/-- the references of a table hold files, all from fb on -/
def TabF (G : GG) (fb : Nat) (t : Nat → Option Nat) (H : Heap) : Prop := ∀ k, k < 20 → ∀ x, t k = some x → fb ≤ x ∧ ∃ vs, Ob G x 4 vs H
theorem TabF.kept {G : GG} {fb : Nat} {t : Nat → Option Nat} {H H1 : Heap} (h : TabF G fb t H) (e : ∀ q, fb ≤ q → q < H.size → H1[q]? = H[q]?) : TabF G fb t H1 := by
  intro k hk x hx
  obtain ⟨h1, vs, h2⟩ := h k hk x hx
  exact ⟨h1, vs, h2.kept (e x h1 h2.lt)⟩
theorem TabOk.F {G : GG} {fb : Nat} {fl : Nat → Option Fil} {t : Nat → Option Nat} {tab : Nat → Option Fil} {H : Heap} (h : TabOk fl t tab) (hf : FlAt G fb fl H) : TabF G fb t H := by
  intro k hk x hx
  obtain ⟨f, hf2⟩ := (h k hk).2 x hx
  exact ⟨(hf.2 x f hf2).1, _, (hf.2 x f hf2).2⟩
end
section
set_option maxHeartbeats 4000000 in
set_option maxRecDepth 100000 in
theorem c_X5_isName (G : GG) (l : Launch) (x : Int) (hx : okI x) : Ct G l yX5_isName cX5_isName 1 (some .boolean) ({ frames := 0, cells := 0, slots := 0, locals := 0 } : Room) [.int (iI (x))] (fun H => True) (RE (b2i (decide (0 ≤ x ∧ x < 20)))) := by
  refine Ct.of (by decide +kernel) (Nat.le_of_ble_eq_true rfl) ?_
  intro p e s m args below meth c ls E hnm hP hl
  obtain ⟨hx1, hx2⟩ := hx
  have hl : lv_has ls 1 [(0, .int (iI (x)))] := hl
  have hL : Lk G [] := Lk.nil
  refine lv_iload_n E.1 E.2.1 dX5_isName_0 rfl (lv_at hl 0 rfl) ?_
  refine r_if_lt (tgt := 14) E dX5_isName_1 (by decide) (by omega) (fun c1 => ?_) (fun c1 => ?_)
  · refine r_const E dX5_isName_14 ?_
    refine e_zret (rm := ({ frames := 0, cells := 0, slots := 0, locals := 0 } : Room)) (v := iI 0) E hL rfl dX5_isName_15 ?_
    exact RE_f (decide_eq_false (by omega))
  · refine lv_iload_n E.1 E.2.1 dX5_isName_4 rfl (lv_at hl 0 rfl) ?_
    refine r_bipush E dX5_isName_5 (by decide) ?_
    refine r_icmp_ge (tgt := 14) E dX5_isName_7 (by decide) (by omega) (by omega) (fun c7 => ?_) (fun c7 => ?_)
    · refine r_const E dX5_isName_14 ?_
      refine e_zret (rm := ({ frames := 0, cells := 0, slots := 0, locals := 0 } : Room)) (v := iI 0) E hL rfl dX5_isName_15 ?_
      exact RE_f (decide_eq_false (by omega))
    · refine r_const E dX5_isName_10 ?_
      refine lv_goto (tgt := 15) E.1 E.2.1 dX5_isName_11 (by decide) ?_
      refine e_zret (rm := ({ frames := 0, cells := 0, slots := 0, locals := 0 } : Room)) (v := iI 1) E hL rfl dX5_isName_15 ?_
      exact RE_t (decide_eq_true (by omega))

set_option maxHeartbeats 4000000 in
set_option maxRecDepth 100000 in
theorem c_X5_isSector (G : GG) (l : Launch) (x : Int) (hx : okI x) : Ct G l yX5_isSector cX5_isSector 1 (some .boolean) ({ frames := 0, cells := 0, slots := 0, locals := 0 } : Room) [.int (iI (x))] (fun H => True) (RE (b2i (decide (0 ≤ x ∧ x < 240)))) := by
  refine Ct.of (by decide +kernel) (Nat.le_of_ble_eq_true rfl) ?_
  intro p e s m args below meth c ls E hnm hP hl
  obtain ⟨hx1, hx2⟩ := hx
  have hl : lv_has ls 1 [(0, .int (iI (x)))] := hl
  have hL : Lk G [] := Lk.nil
  refine lv_iload_n E.1 E.2.1 dX5_isSector_0 rfl (lv_at hl 0 rfl) ?_
  refine r_if_lt (tgt := 15) E dX5_isSector_1 (by decide) (by omega) (fun c1 => ?_) (fun c1 => ?_)
  · refine r_const E dX5_isSector_15 ?_
    refine e_zret (rm := ({ frames := 0, cells := 0, slots := 0, locals := 0 } : Room)) (v := iI 0) E hL rfl dX5_isSector_16 ?_
    exact RE_f (decide_eq_false (by omega))
  · refine lv_iload_n E.1 E.2.1 dX5_isSector_4 rfl (lv_at hl 0 rfl) ?_
    refine r_sipush E dX5_isSector_5 (by decide) ?_
    refine r_icmp_ge (tgt := 15) E dX5_isSector_8 (by decide) (by omega) (by omega) (fun c8 => ?_) (fun c8 => ?_)
    · refine r_const E dX5_isSector_15 ?_
      refine e_zret (rm := ({ frames := 0, cells := 0, slots := 0, locals := 0 } : Room)) (v := iI 0) E hL rfl dX5_isSector_16 ?_
      exact RE_f (decide_eq_false (by omega))
    · refine r_const E dX5_isSector_11 ?_
      refine lv_goto (tgt := 16) E.1 E.2.1 dX5_isSector_12 (by decide) ?_
      refine e_zret (rm := ({ frames := 0, cells := 0, slots := 0, locals := 0 } : Room)) (v := iI 1) E hL rfl dX5_isSector_16 ?_
      exact RE_t (decide_eq_true (by omega))

set_option maxHeartbeats 4000000 in
set_option maxRecDepth 100000 in
theorem c_X5_isFileSize (G : GG) (l : Launch) (x : Int) (hx : okI x) : Ct G l yX5_isFileSize cX5_isFileSize 1 (some .boolean) ({ frames := 0, cells := 0, slots := 0, locals := 0 } : Room) [.int (iI (x))] (fun H => True) (RE (b2i (decide (1 ≤ x ∧ x ≤ 40)))) := by
  refine Ct.of (by decide +kernel) (Nat.le_of_ble_eq_true rfl) ?_
  intro p e s m args below meth c ls E hnm hP hl
  obtain ⟨hx1, hx2⟩ := hx
  have hl : lv_has ls 1 [(0, .int (iI (x)))] := hl
  have hL : Lk G [] := Lk.nil
  refine lv_iload_n E.1 E.2.1 dX5_isFileSize_0 rfl (lv_at hl 0 rfl) ?_
  refine r_const E dX5_isFileSize_1 ?_
  refine r_icmp_lt (tgt := 15) E dX5_isFileSize_2 (by decide) (by omega) (by omega) (fun c2 => ?_) (fun c2 => ?_)
  · refine r_const E dX5_isFileSize_15 ?_
    refine e_zret (rm := ({ frames := 0, cells := 0, slots := 0, locals := 0 } : Room)) (v := iI 0) E hL rfl dX5_isFileSize_16 ?_
    exact RE_f (decide_eq_false (by omega))
  · refine lv_iload_n E.1 E.2.1 dX5_isFileSize_5 rfl (lv_at hl 0 rfl) ?_
    refine r_bipush E dX5_isFileSize_6 (by decide) ?_
    refine r_icmp_gt (tgt := 15) E dX5_isFileSize_8 (by decide) (by omega) (by omega) (fun c8 => ?_) (fun c8 => ?_)
    · refine r_const E dX5_isFileSize_15 ?_
      refine e_zret (rm := ({ frames := 0, cells := 0, slots := 0, locals := 0 } : Room)) (v := iI 0) E hL rfl dX5_isFileSize_16 ?_
      exact RE_f (decide_eq_false (by omega))
    · refine r_const E dX5_isFileSize_11 ?_
      refine lv_goto (tgt := 16) E.1 E.2.1 dX5_isFileSize_12 (by decide) ?_
      refine e_zret (rm := ({ frames := 0, cells := 0, slots := 0, locals := 0 } : Room)) (v := iI 1) E hL rfl dX5_isFileSize_16 ?_
      exact RE_t (decide_eq_true (by omega))

set_option maxHeartbeats 4000000 in
set_option maxRecDepth 100000 in
theorem c_X5_isSetting (G : GG) (l : Launch) (x : Int) (hx : okI x) : Ct G l yX5_isSetting cX5_isSetting 1 (some .boolean) ({ frames := 0, cells := 0, slots := 0, locals := 0 } : Room) [.int (iI (x))] (fun H => True) (RE (b2i (decide (x = 0 ∨ x = 1)))) := by
  refine Ct.of (by decide +kernel) (Nat.le_of_ble_eq_true rfl) ?_
  intro p e s m args below meth c ls E hnm hP hl
  obtain ⟨hx1, hx2⟩ := hx
  have hl : lv_has ls 1 [(0, .int (iI (x)))] := hl
  have hL : Lk G [] := Lk.nil
  refine lv_iload_n E.1 E.2.1 dX5_isSetting_0 rfl (lv_at hl 0 rfl) ?_
  refine r_if_eq (tgt := 9) E dX5_isSetting_1 (by decide) (by omega) (fun c1 => ?_) (fun c1 => ?_)
  · refine r_const E dX5_isSetting_9 ?_
    refine lv_goto (tgt := 14) E.1 E.2.1 dX5_isSetting_10 (by decide) ?_
    refine e_zret (rm := ({ frames := 0, cells := 0, slots := 0, locals := 0 } : Room)) (v := iI 1) E hL rfl dX5_isSetting_14 ?_
    exact RE_t (decide_eq_true (by omega))
  · refine lv_iload_n E.1 E.2.1 dX5_isSetting_4 rfl (lv_at hl 0 rfl) ?_
    refine r_const E dX5_isSetting_5 ?_
    refine r_icmp_ne (tgt := 13) E dX5_isSetting_6 (by decide) (by omega) (by omega) (fun c6 => ?_) (fun c6 => ?_)
    · refine r_const E dX5_isSetting_13 ?_
      refine e_zret (rm := ({ frames := 0, cells := 0, slots := 0, locals := 0 } : Room)) (v := iI 0) E hL rfl dX5_isSetting_14 ?_
      exact RE_f (decide_eq_false (by omega))
    · refine r_const E dX5_isSetting_9 ?_
      refine lv_goto (tgt := 14) E.1 E.2.1 dX5_isSetting_10 (by decide) ?_
      refine e_zret (rm := ({ frames := 0, cells := 0, slots := 0, locals := 0 } : Room)) (v := iI 1) E hL rfl dX5_isSetting_14 ?_
      exact RE_t (decide_eq_true (by omega))

set_option maxHeartbeats 4000000 in
set_option maxRecDepth 100000 in
theorem c_X5_isError (G : GG) (l : Launch) (x : Int) (hx : okI x) : Ct G l yX5_isError cX5_isError 1 (some .boolean) ({ frames := 0, cells := 0, slots := 0, locals := 0 } : Room) [.int (iI (x))] (fun H => True) (RE (b2i (decide (-5 ≤ x ∧ x ≤ -1)))) := by
  refine Ct.of (by decide +kernel) (Nat.le_of_ble_eq_true rfl) ?_
  intro p e s m args below meth c ls E hnm hP hl
  obtain ⟨hx1, hx2⟩ := hx
  have hl : lv_has ls 1 [(0, .int (iI (x)))] := hl
  have hL : Lk G [] := Lk.nil
  refine lv_iload_n E.1 E.2.1 dX5_isError_0 rfl (lv_at hl 0 rfl) ?_
  refine r_bipush E dX5_isError_1 (by decide) ?_
  refine r_icmp_lt (tgt := 15) E dX5_isError_3 (by decide) (by omega) (by omega) (fun c3 => ?_) (fun c3 => ?_)
  · refine r_const E dX5_isError_15 ?_
    refine e_zret (rm := ({ frames := 0, cells := 0, slots := 0, locals := 0 } : Room)) (v := iI 0) E hL rfl dX5_isError_16 ?_
    exact RE_f (decide_eq_false (by omega))
  · refine lv_iload_n E.1 E.2.1 dX5_isError_6 rfl (lv_at hl 0 rfl) ?_
    refine r_const E dX5_isError_7 ?_
    refine r_icmp_gt (tgt := 15) E dX5_isError_8 (by decide) (by omega) (by omega) (fun c8 => ?_) (fun c8 => ?_)
    · refine r_const E dX5_isError_15 ?_
      refine e_zret (rm := ({ frames := 0, cells := 0, slots := 0, locals := 0 } : Room)) (v := iI 0) E hL rfl dX5_isError_16 ?_
      exact RE_f (decide_eq_false (by omega))
    · refine r_const E dX5_isError_11 ?_
      refine lv_goto (tgt := 16) E.1 E.2.1 dX5_isError_12 (by decide) ?_
      refine e_zret (rm := ({ frames := 0, cells := 0, slots := 0, locals := 0 } : Room)) (v := iI 1) E hL rfl dX5_isError_16 ?_
      exact RE_t (decide_eq_true (by omega))

set_option maxHeartbeats 4000000 in
set_option maxRecDepth 100000 in
theorem c_X6_in (G : GG) (l : Launch) (x : Int) (a : Int) (b : Int) (hx : okI x) (ha : okI a) (hb : okI b) : Ct G l yX6_in cX6_in 3 (some .boolean) ({ frames := 0, cells := 0, slots := 0, locals := 0 } : Room) [.int (iI (x)), .int (iI (a)), .int (iI (b))] (fun H => True) (RE (b2i (decide (a ≤ x ∧ x ≤ b)))) := by
  refine Ct.of (by decide +kernel) (Nat.le_of_ble_eq_true rfl) ?_
  intro p e s m args below meth c ls E hnm hP hl
  obtain ⟨hx1, hx2⟩ := hx
  obtain ⟨ha1, ha2⟩ := ha
  obtain ⟨hb1, hb2⟩ := hb
  have hl : lv_has ls 3 [(0, .int (iI (x))), (1, .int (iI (a))), (2, .int (iI (b)))] := hl
  have hL : Lk G [] := Lk.nil
  refine lv_iload_n E.1 E.2.1 dX6_in_0 rfl (lv_at hl 0 rfl) ?_
  refine lv_iload_n E.1 E.2.1 dX6_in_1 rfl (lv_at hl 1 rfl) ?_
  refine r_icmp_lt (tgt := 14) E dX6_in_2 (by decide) (by omega) (by omega) (fun c2 => ?_) (fun c2 => ?_)
  · refine r_const E dX6_in_14 ?_
    refine e_zret (rm := ({ frames := 0, cells := 0, slots := 0, locals := 0 } : Room)) (v := iI 0) E hL rfl dX6_in_15 ?_
    exact RE_f (decide_eq_false (by omega))
  · refine lv_iload_n E.1 E.2.1 dX6_in_5 rfl (lv_at hl 0 rfl) ?_
    refine lv_iload_n E.1 E.2.1 dX6_in_6 rfl (lv_at hl 2 rfl) ?_
    refine r_icmp_gt (tgt := 14) E dX6_in_7 (by decide) (by omega) (by omega) (fun c7 => ?_) (fun c7 => ?_)
    · refine r_const E dX6_in_14 ?_
      refine e_zret (rm := ({ frames := 0, cells := 0, slots := 0, locals := 0 } : Room)) (v := iI 0) E hL rfl dX6_in_15 ?_
      exact RE_f (decide_eq_false (by omega))
    · refine r_const E dX6_in_10 ?_
      refine lv_goto (tgt := 15) E.1 E.2.1 dX6_in_11 (by decide) ?_
      refine e_zret (rm := ({ frames := 0, cells := 0, slots := 0, locals := 0 } : Room)) (v := iI 1) E hL rfl dX6_in_15 ?_
      exact RE_t (decide_eq_true (by omega))
end
section
set_option maxHeartbeats 4000000 in
set_option maxRecDepth 100000 in
theorem c_X3_init (G : GG) (l : Launch) (a : Nat) (hga : G.2.2 ≤ a) : Ct G l yX3_init cX3_init 1 none ({ frames := 1, cells := 1, slots := 20, locals := 24 } : Room) [.ref (a)] (fun H => Ob G a 3 [.null, .int 0, .int 0, .int 0, .int 0, .int 0, .int 0] H ∧ H.size = a + 1) (WV (fun H H1 => SesR G a (fun _ => 0) (fun _ => none) H1 ∧ H1.size = H.size + 1 ∧ ∀ q, q < a → H1[q]? = H[q]?)) := by
  refine Ct.of (by decide +kernel) (Nat.le_of_ble_eq_true rfl) ?_
  intro p e s m args below meth c ls E hnm hP hl
  obtain ⟨ho, hsz⟩ := hP
  have hfr : ∀ q, q < a → s.heap[q]? = s.heap[q]? := fun _ _ => rfl
  have hsz0 := hsz
  have hl : lv_has ls 1 [(0, .ref (a))] := hl
  have hL : Lk G [] := Lk.nil
  generalize ([] : List Loc) = locs at hL ⊢
  refine lv_aload_n E.1 E.2.1 dX3_init_0 rfl (lv_at hl 0 rfl) ?_
  refine m_objinit E oi_X3 hl.1 (Nat.le_of_ble_eq_true rfl) (Nat.le_of_ble_eq_true rfl) dX3_init_1 ?_
  refine lv_aload_n E.1 E.2.1 dX3_init_4 rfl (lv_at hl 0 rfl) ?_
  refine r_bipush E dX3_init_5 (by decide) ?_
  refine m_newq (t := 4) (N := 20) E cl_X3_9 E.2.2.2.2.2.2.2.2.1.2.1 rfl (by decide) (by decide) (by decide) (Nat.le_of_ble_eq_true rfl) (Nat.le_of_ble_eq_true rfl) dX3_init_7 (fun H1 hn2 hPu_ => ?_)
  rw [hsz] at hn2
  rw [hsz]
  have ho := ho.kept (hPu_.2 _ (by omega))
  have hfr : ∀ q, q < a → H1[q]? = s.heap[q]? := fun q hq => (hPu_.2 q (by omega)).trans (hfr q hq)
  have hsz : H1.size = a + 2 := by rw [hPu_.1]; omega
  refine m_putF E hnm ho fw_X3_11 fp_X3_0 rfl rfl (Nat.le_of_ble_eq_true rfl) hL (by omega) ⟨_, _, rfl⟩ dX3_init_10 (fun H3 locs hL hO_ hF_ => ?_)
  have hn2 := hn2.kept (hF_.2 _ (by omega))
  have hsz : H3.size = a + 2 := hF_.1.trans hsz
  have hfr : ∀ q, q < a → H3[q]? = s.heap[q]? := fun q hq => (hF_.2 q (by omega)).trans (hfr q hq)
  have ho : Ob G (a) 3 [.ref (a + 1), .int (0), .int (0), .int (0), .int (0), .int (0), .int (0)] H3 := hO_
  clear hO_
  refine e_vret (rm := ({ frames := 1, cells := 1, slots := 20, locals := 24 } : Room)) E hL dX3_init_13 ⟨rfl, ?_⟩
  exact ⟨⟨ho, hn2⟩, by omega, hfr⟩

set_option maxHeartbeats 4000000 in
set_option maxRecDepth 100000 in
theorem c_X3_startAt (G : GG) (l : Launch) (a : Nat) (x y z : Int) (w : Nat → Int32) (t : Nat → Option Nat) (hga : G.2.2 ≤ a) : Ct G l yX3_startAt cX3_startAt 5 none ({ frames := 0, cells := 0, slots := 0, locals := 0 } : Room) [.ref (a), .int (iI (x)), .int (iI (y)), .int (iI (z))] (fun H => SesR G a w t H) (WV (fun H H1 => SesR G a (fun k => if k = 0 then iI 0 else if k = 1 then iI x else if k = 2 then iI (x + y) else if k = 3 then iI y else if k = 4 then iI z else iI 0) (fun _ => none) H1 ∧ FrS a (a + 2) H H1)) := by
  refine Ct.of (by decide +kernel) (Nat.le_of_ble_eq_true rfl) ?_
  intro p e s m args below meth c ls E hnm hP hl
  obtain ⟨ho, hr⟩ := hP
  have hS : FrS a (a + 2) s.heap s.heap := FrS.rf
  have hl : lv_has ls 5 [(0, .ref (a)), (1, .int (iI (x))), (2, .int (iI (y))), (3, .int (iI (z)))] := hl
  have hL : Lk G [] := Lk.nil
  generalize ([] : List Loc) = locs at hL ⊢
  refine lv_aload_n E.1 E.2.1 dX3_startAt_0 rfl (lv_at hl 0 rfl) ?_
  refine r_const E dX3_startAt_1 ?_
  refine m_put E ho fw_X3_17 fp_X3_1 rfl rfl (Nat.le_of_ble_eq_true rfl) hL (by omega) dX3_startAt_2 (fun H1 locs hL hO_ hF_ => ?_)
  have hr := hr.kept (hF_.2 _ (by omega))
  have hS := hS.trans (FrS.of1 (lo := a) (hi := a + 2) hF_ (by omega) (by omega))
  have ho : Ob G (a) 3 [.ref (a + 1), .int (iI (0)), .int (w 1), .int (w 2), .int (w 3), .int (w 4), .int (w 5)] H1 := hO_
  clear hO_
  refine lv_aload_n E.1 E.2.1 dX3_startAt_5 rfl (lv_at hl 0 rfl) ?_
  refine lv_iload_n E.1 E.2.1 dX3_startAt_6 rfl (lv_at hl 1 rfl) ?_
  refine m_put E ho fw_X3_21 fp_X3_2 rfl rfl (Nat.le_of_ble_eq_true rfl) hL (by omega) dX3_startAt_7 (fun H2 locs hL hO_ hF_ => ?_)
  have hr := hr.kept (hF_.2 _ (by omega))
  have hS := hS.trans (FrS.of1 (lo := a) (hi := a + 2) hF_ (by omega) (by omega))
  have ho : Ob G (a) 3 [.ref (a + 1), .int (iI (0)), .int (iI (x)), .int (w 2), .int (w 3), .int (w 4), .int (w 5)] H2 := hO_
  clear hO_
  refine lv_aload_n E.1 E.2.1 dX3_startAt_10 rfl (lv_at hl 0 rfl) ?_
  refine lv_iload_n E.1 E.2.1 dX3_startAt_11 rfl (lv_at hl 1 rfl) ?_
  refine lv_iload_n E.1 E.2.1 dX3_startAt_12 rfl (lv_at hl 2 rfl) ?_
  refine r_add E dX3_startAt_13 ?_
  refine m_put E ho fw_X3_24 fp_X3_3 rfl rfl (Nat.le_of_ble_eq_true rfl) hL (by omega) dX3_startAt_14 (fun H3 locs hL hO_ hF_ => ?_)
  have hr := hr.kept (hF_.2 _ (by omega))
  have hS := hS.trans (FrS.of1 (lo := a) (hi := a + 2) hF_ (by omega) (by omega))
  have ho : Ob G (a) 3 [.ref (a + 1), .int (iI (0)), .int (iI (x)), .int (iI (x + y)), .int (w 3), .int (w 4), .int (w 5)] H3 := hO_
  clear hO_
  refine lv_aload_n E.1 E.2.1 dX3_startAt_17 rfl (lv_at hl 0 rfl) ?_
  refine lv_iload_n E.1 E.2.1 dX3_startAt_18 rfl (lv_at hl 2 rfl) ?_
  refine m_put E ho fw_X3_27 fp_X3_4 rfl rfl (Nat.le_of_ble_eq_true rfl) hL (by omega) dX3_startAt_19 (fun H4 locs hL hO_ hF_ => ?_)
  have hr := hr.kept (hF_.2 _ (by omega))
  have hS := hS.trans (FrS.of1 (lo := a) (hi := a + 2) hF_ (by omega) (by omega))
  have ho : Ob G (a) 3 [.ref (a + 1), .int (iI (0)), .int (iI (x)), .int (iI (x + y)), .int (iI (y)), .int (w 4), .int (w 5)] H4 := hO_
  clear hO_
  refine lv_aload_n E.1 E.2.1 dX3_startAt_22 rfl (lv_at hl 0 rfl) ?_
  refine lv_iload_n E.1 E.2.1 dX3_startAt_23 rfl (lv_at hl 3 rfl) ?_
  refine m_put E ho fw_X3_30 fp_X3_5 rfl rfl (Nat.le_of_ble_eq_true rfl) hL (by omega) dX3_startAt_24 (fun H5 locs hL hO_ hF_ => ?_)
  have hr := hr.kept (hF_.2 _ (by omega))
  have hS := hS.trans (FrS.of1 (lo := a) (hi := a + 2) hF_ (by omega) (by omega))
  have ho : Ob G (a) 3 [.ref (a + 1), .int (iI (0)), .int (iI (x)), .int (iI (x + y)), .int (iI (y)), .int (iI (z)), .int (w 5)] H5 := hO_
  clear hO_
  refine lv_aload_n E.1 E.2.1 dX3_startAt_27 rfl (lv_at hl 0 rfl) ?_
  refine r_const E dX3_startAt_28 ?_
  refine m_put E ho fw_X3_33 fp_X3_6 rfl rfl (Nat.le_of_ble_eq_true rfl) hL (by omega) dX3_startAt_29 (fun H6 locs hL hO_ hF_ => ?_)
  have hr := hr.kept (hF_.2 _ (by omega))
  have hS := hS.trans (FrS.of1 (lo := a) (hi := a + 2) hF_ (by omega) (by omega))
  have ho : Ob G (a) 3 [.ref (a + 1), .int (iI (0)), .int (iI (x)), .int (iI (x + y)), .int (iI (y)), .int (iI (z)), .int (iI (0))] H6 := hO_
  clear hO_
  refine r_const E dX3_startAt_32 ?_
  refine lv_istore (lv' := [(4, .int (iI (0))), (0, .ref (a)), (1, .int (iI (x))), (2, .int (iI (y))), (3, .int (iI (z)))]) E.1 E.2.1 dX3_startAt_33 hl (by decide) rfl (fun ls hl => ?_)
  have LP35 : ∀ (kin35 : Nat) (n : Nat) (H : Heap) (ls : Array Slot) (locs : List Loc) (hn : n ≤ 20) (hr : Ra G (a + 1) 4 20 (fun j => if j < n then none else t j) H) (hq : FrS (a + 1) (a + 2) H6 H) (hkin35 : 20 - n = kin35) (hl : lv_has ls 5 [(4, .int (iI ((n : Int)))), (0, .ref (a))]) (hL : Lk G locs), W p l e ({ frames := 0, cells := 0, slots := 0, locals := 0 } : Room) s m args below meth c H locs 0 0 (QQ G below args s ({ frames := 0, cells := 0, slots := 0, locals := 0 } : Room) (WV (fun H H1 => SesR G a (fun k => if k = 0 then iI 0 else if k = 1 then iI x else if k = 2 then iI (x + y) else if k = 3 then iI y else if k = 4 then iI z else iI 0) (fun _ => none) H1 ∧ FrS a (a + 2) H H1))) (F0 m 35 ls []) := by
    intro kin35
    induction kin35 using Nat.strongRecOn with
    | ind kin35 ihin35 =>
      intro n H ls locs hn hr hq hkin35 hl hL
      have ho : Ob G (a) 3 [.ref (a + 1), .int (iI (0)), .int (iI (x)), .int (iI (x + y)), .int (iI (y)), .int (iI (z)), .int (iI (0))] H := ho.kept (hq.2 _ (by omega))
      refine lv_iload E.1 E.2.1 dX3_startAt_35 (lv_at hl 0 rfl) ?_
      refine r_bipush E dX3_startAt_37 (by decide) ?_
      refine r_icmp_ge (tgt := 56) E dX3_startAt_39 (by decide) (by omega) (by omega) (fun c39 => ?_) (fun c39 => ?_)
      · have hn20 : n = 20 := by omega
        subst hn20
        refine e_vret (rm := ({ frames := 0, cells := 0, slots := 0, locals := 0 } : Room)) E hL dX3_startAt_56 ⟨rfl, ?_⟩
        exact ⟨⟨ho, hr.to (fun j hj => by simp [hj])⟩, hS.trans (hq.wide (by omega) (by omega))⟩
      · refine lv_aload_n E.1 E.2.1 dX3_startAt_42 rfl (lv_at hl 1 rfl) ?_
        refine m_get E ho fw_X3_11 rfl dX3_startAt_43 ?_
        refine lv_iload E.1 E.2.1 dX3_startAt_46 (lv_at hl 0 rfl) ?_
        refine lv_null E.1 E.2.1 dX3_startAt_48 ?_
        refine r_aastQ (v := none) E hr rfl (fun _ h => by cases h) (show vwCl[4]? = some _ from rfl) (n) rfl (by omega) (by decide) hL (by omega) dX3_startAt_49 (fun H7 locs hL hO_ hF_ => ?_)
        have ho := ho.kept (hF_.2 _ (by omega))
        have hr : Ra G (a + 1) 4 20 (va_up (fun j => if j < n then none else t j) (n) (none)) H7 := hO_
        clear hO_
        refine r_inc (lv' := [(4, .int (iI ((n : Int) + 1))), (0, .ref (a))]) E dX3_startAt_50 hl (k := 0) rfl (by decide) rfl (fun ls hl => ?_)
        refine lv_goto (tgt := 35) E.1 E.2.1 dX3_startAt_53 (by decide) ?_
        refine ihin35 _ ?_ (n + 1) H7 ls locs ?_ ?_ ?_ rfl (lv_sub hl [0, 1] rfl) hL
        · omega
        · omega
        · refine hr.to (fun j hj => ?_)
          by_cases h1 : j = n
          · subst h1; simp [va_up]
          · have h2 : j < n + 1 ↔ j < n := by omega
            simp [va_up, h1, h2]
        · exact hq.trans (FrS.of1 hF_ (by omega) (by omega))
  refine LP35 _ 0 H6 ls locs ?_ ?_ ?_ rfl (lv_sub hl [0, 1] rfl) hL
  · decide
  · exact hr.to (fun j hj => by simp)
  · exact FrS.rf

set_option maxHeartbeats 4000000 in
set_option maxRecDepth 100000 in
theorem c_X3_copyTable (G : GG) (l : Launch) (a a2 fb : Nat) (w w2 : Nat → Int32) (t t2 : Nat → Option Nat) (hga : G.2.2 ≤ a) (hd : a2 + 2 ≤ a ∨ a + 2 ≤ a2) (hfb : a + 2 ≤ fb) : Ct G l yX3_copyTable cX3_copyTable 3 none ({ frames := 0, cells := 0, slots := 0, locals := 0 } : Room) [.ref (a), .ref (a2)] (fun H => SesR G a w t H ∧ SesR G a2 w2 t2 H ∧ TabF G fb t2 H) (WV (fun H H1 => SesR G a w t2 H1 ∧ FrS (a + 1) (a + 2) H H1)) := by
  refine Ct.of (by decide +kernel) (Nat.le_of_ble_eq_true rfl) ?_
  intro p e s m args below meth c ls E hnm hP hl
  obtain ⟨⟨ho, hr⟩, ⟨ho2, hr2⟩, hT⟩ := hP
  have hl : lv_has ls 3 [(0, .ref (a)), (1, .ref (a2))] := hl
  have hL : Lk G [] := Lk.nil
  generalize ([] : List Loc) = locs at hL ⊢
  refine r_const E dX3_copyTable_0 ?_
  refine lv_istore_n (lv' := [(2, .int (iI (0))), (0, .ref (a)), (1, .ref (a2))]) E.1 E.2.1 dX3_copyTable_1 rfl hl (by decide) rfl (fun ls hl => ?_)
  have LP2 : ∀ (kin2 : Nat) (n : Nat) (H : Heap) (ls : Array Slot) (locs : List Loc) (hn : n ≤ 20) (hr : Ra G (a + 1) 4 20 (fun j => if j < n then t2 j else t j) H) (hq : FrS (a + 1) (a + 2) s.heap H) (hkin2 : 20 - n = kin2) (hl : lv_has ls 3 [(2, .int (iI ((n : Int)))), (0, .ref (a)), (1, .ref (a2))]) (hL : Lk G locs), W p l e ({ frames := 0, cells := 0, slots := 0, locals := 0 } : Room) s m args below meth c H locs 0 0 (QQ G below args s ({ frames := 0, cells := 0, slots := 0, locals := 0 } : Room) (WV (fun H H1 => SesR G a w t2 H1 ∧ FrS (a + 1) (a + 2) H H1))) (F0 m 2 ls []) := by
    intro kin2
    induction kin2 using Nat.strongRecOn with
    | ind kin2 ihin2 =>
      intro n H ls locs hn hr hq hkin2 hl hL
      have ho := ho.kept (hq.2 _ (by omega))
      have ho2 := ho2.kept (hq.2 _ (by omega))
      have hr2 := hr2.kept (hq.2 _ (by omega))
      have hT : TabF G fb t2 H := hT.kept (fun q h1 h2 => hq.2 q (by omega))
      refine lv_iload_n E.1 E.2.1 dX3_copyTable_2 rfl (lv_at hl 0 rfl) ?_
      refine r_bipush E dX3_copyTable_3 (by decide) ?_
      refine r_icmp_ge (tgt := 26) E dX3_copyTable_5 (by decide) (by omega) (by omega) (fun c5 => ?_) (fun c5 => ?_)
      · have hn20 : n = 20 := by omega
        subst hn20
        refine e_vret (rm := ({ frames := 0, cells := 0, slots := 0, locals := 0 } : Room)) E hL dX3_copyTable_26 ⟨rfl, ?_⟩
        exact ⟨⟨ho, hr.to (fun j hj => by simp [hj])⟩, hq⟩
      · refine lv_aload_n E.1 E.2.1 dX3_copyTable_8 rfl (lv_at hl 1 rfl) ?_
        refine m_get E ho fw_X3_11 rfl dX3_copyTable_9 ?_
        refine lv_iload_n E.1 E.2.1 dX3_copyTable_12 rfl (lv_at hl 0 rfl) ?_
        refine lv_aload_n E.1 E.2.1 dX3_copyTable_13 rfl (lv_at hl 2 rfl) ?_
        refine m_get E ho2 fw_X3_11 rfl dX3_copyTable_14 ?_
        refine lv_iload_n E.1 E.2.1 dX3_copyTable_17 rfl (lv_at hl 0 rfl) ?_
        refine r_aald E hr2 rfl (n) rfl (by omega) (by decide) dX3_copyTable_18 ?_
        refine r_aastQ (v := t2 n) E hr rfl (fun x hx => (hT n (by omega) x hx).2) (show vwCl[4]? = some _ from rfl) (n) rfl (by omega) (by decide) hL (by omega) dX3_copyTable_19 (fun H1 locs hL hO_ hF_ => ?_)
        have ho := ho.kept (hF_.2 _ (by omega))
        have ho2 := ho2.kept (hF_.2 _ (by omega))
        have hr2 := hr2.kept (hF_.2 _ (by omega))
        have hr : Ra G (a + 1) 4 20 (va_up (fun j => if j < n then t2 j else t j) (n) (t2 n)) H1 := hO_
        clear hO_
        refine r_inc (lv' := [(2, .int (iI ((n : Int) + 1))), (0, .ref (a)), (1, .ref (a2))]) E dX3_copyTable_20 hl (k := 0) rfl (by decide) rfl (fun ls hl => ?_)
        refine lv_goto (tgt := 2) E.1 E.2.1 dX3_copyTable_23 (by decide) ?_
        refine ihin2 _ ?_ (n + 1) H1 ls locs ?_ ?_ ?_ rfl (lv_sub hl [0, 1, 2] rfl) hL
        · omega
        · omega
        · refine hr.to (fun j hj => ?_)
          by_cases h1 : j = n
          · subst h1; simp [va_up]
          · have h2 : j < n + 1 ↔ j < n := by omega
            simp [va_up, h1, h2]
        · exact hq.trans (FrS.of1 hF_ (by omega) (by omega))
  refine LP2 _ 0 s.heap ls locs ?_ ?_ ?_ rfl (lv_sub hl [0, 1, 2] rfl) hL
  · decide
  · exact hr.to (fun j hj => by simp)
  · exact FrS.rf

set_option maxHeartbeats 4000000 in
set_option maxRecDepth 100000 in
theorem c_X3_copyAll (G : GG) (l : Launch) (a a2 fb : Nat) (w w2 : Nat → Int32) (t t2 : Nat → Option Nat) (hga : G.2.2 ≤ a) (hd : a2 + 2 ≤ a ∨ a + 2 ≤ a2) (hfb : a + 2 ≤ fb) : Ct G l yX3_copyAll cX3_copyAll 2 none ({ frames := 1, cells := 0, slots := 0, locals := 22 } : Room) [.ref (a), .ref (a2)] (fun H => SesR G a w t H ∧ SesR G a2 w2 t2 H ∧ TabF G fb t2 H) (WV (fun H H1 => SesR G a w2 t2 H1 ∧ FrS a (a + 2) H H1)) := by
  refine Ct.of (by decide +kernel) (Nat.le_of_ble_eq_true rfl) ?_
  intro p e s m args below meth c ls E hnm hP hl
  obtain ⟨⟨ho, hr⟩, ⟨ho2, hr2⟩, hT⟩ := hP
  have hS : FrS a (a + 2) s.heap s.heap := FrS.rf
  have hl : lv_has ls 2 [(0, .ref (a)), (1, .ref (a2))] := hl
  have hL : Lk G [] := Lk.nil
  generalize ([] : List Loc) = locs at hL ⊢
  refine lv_aload_n E.1 E.2.1 dX3_copyAll_0 rfl (lv_at hl 0 rfl) ?_
  refine lv_aload_n E.1 E.2.1 dX3_copyAll_1 rfl (lv_at hl 1 rfl) ?_
  refine m_get E ho2 fw_X3_17 rfl dX3_copyAll_2 ?_
  refine m_put E ho fw_X3_17 fp_X3_1 rfl rfl (Nat.le_of_ble_eq_true rfl) hL (by omega) dX3_copyAll_5 (fun H1 locs hL hO_ hF_ => ?_)
  have ho2 := ho2.kept (hF_.2 _ (by omega))
  have hr := hr.kept (hF_.2 _ (by omega))
  have hr2 := hr2.kept (hF_.2 _ (by omega))
  have hS := hS.trans (FrS.of1 (lo := a) (hi := a + 2) hF_ (by omega) (by omega))
  have hT := hT.kept (fun q h1 h2 => hF_.2 q (by omega))
  have ho : Ob G (a) 3 [.ref (a + 1), .int (w2 0), .int (w 1), .int (w 2), .int (w 3), .int (w 4), .int (w 5)] H1 := hO_
  clear hO_
  refine lv_aload_n E.1 E.2.1 dX3_copyAll_8 rfl (lv_at hl 0 rfl) ?_
  refine lv_aload_n E.1 E.2.1 dX3_copyAll_9 rfl (lv_at hl 1 rfl) ?_
  refine m_get E ho2 fw_X3_21 rfl dX3_copyAll_10 ?_
  refine m_put E ho fw_X3_21 fp_X3_2 rfl rfl (Nat.le_of_ble_eq_true rfl) hL (by omega) dX3_copyAll_13 (fun H2 locs hL hO_ hF_ => ?_)
  have ho2 := ho2.kept (hF_.2 _ (by omega))
  have hr := hr.kept (hF_.2 _ (by omega))
  have hr2 := hr2.kept (hF_.2 _ (by omega))
  have hS := hS.trans (FrS.of1 (lo := a) (hi := a + 2) hF_ (by omega) (by omega))
  have hT := hT.kept (fun q h1 h2 => hF_.2 q (by omega))
  have ho : Ob G (a) 3 [.ref (a + 1), .int (w2 0), .int (w2 1), .int (w 2), .int (w 3), .int (w 4), .int (w 5)] H2 := hO_
  clear hO_
  refine lv_aload_n E.1 E.2.1 dX3_copyAll_16 rfl (lv_at hl 0 rfl) ?_
  refine lv_aload_n E.1 E.2.1 dX3_copyAll_17 rfl (lv_at hl 1 rfl) ?_
  refine m_get E ho2 fw_X3_24 rfl dX3_copyAll_18 ?_
  refine m_put E ho fw_X3_24 fp_X3_3 rfl rfl (Nat.le_of_ble_eq_true rfl) hL (by omega) dX3_copyAll_21 (fun H3 locs hL hO_ hF_ => ?_)
  have ho2 := ho2.kept (hF_.2 _ (by omega))
  have hr := hr.kept (hF_.2 _ (by omega))
  have hr2 := hr2.kept (hF_.2 _ (by omega))
  have hS := hS.trans (FrS.of1 (lo := a) (hi := a + 2) hF_ (by omega) (by omega))
  have hT := hT.kept (fun q h1 h2 => hF_.2 q (by omega))
  have ho : Ob G (a) 3 [.ref (a + 1), .int (w2 0), .int (w2 1), .int (w2 2), .int (w 3), .int (w 4), .int (w 5)] H3 := hO_
  clear hO_
  refine lv_aload_n E.1 E.2.1 dX3_copyAll_24 rfl (lv_at hl 0 rfl) ?_
  refine lv_aload_n E.1 E.2.1 dX3_copyAll_25 rfl (lv_at hl 1 rfl) ?_
  refine m_get E ho2 fw_X3_27 rfl dX3_copyAll_26 ?_
  refine m_put E ho fw_X3_27 fp_X3_4 rfl rfl (Nat.le_of_ble_eq_true rfl) hL (by omega) dX3_copyAll_29 (fun H4 locs hL hO_ hF_ => ?_)
  have ho2 := ho2.kept (hF_.2 _ (by omega))
  have hr := hr.kept (hF_.2 _ (by omega))
  have hr2 := hr2.kept (hF_.2 _ (by omega))
  have hS := hS.trans (FrS.of1 (lo := a) (hi := a + 2) hF_ (by omega) (by omega))
  have hT := hT.kept (fun q h1 h2 => hF_.2 q (by omega))
  have ho : Ob G (a) 3 [.ref (a + 1), .int (w2 0), .int (w2 1), .int (w2 2), .int (w2 3), .int (w 4), .int (w 5)] H4 := hO_
  clear hO_
  refine lv_aload_n E.1 E.2.1 dX3_copyAll_32 rfl (lv_at hl 0 rfl) ?_
  refine lv_aload_n E.1 E.2.1 dX3_copyAll_33 rfl (lv_at hl 1 rfl) ?_
  refine m_get E ho2 fw_X3_30 rfl dX3_copyAll_34 ?_
  refine m_put E ho fw_X3_30 fp_X3_5 rfl rfl (Nat.le_of_ble_eq_true rfl) hL (by omega) dX3_copyAll_37 (fun H5 locs hL hO_ hF_ => ?_)
  have ho2 := ho2.kept (hF_.2 _ (by omega))
  have hr := hr.kept (hF_.2 _ (by omega))
  have hr2 := hr2.kept (hF_.2 _ (by omega))
  have hS := hS.trans (FrS.of1 (lo := a) (hi := a + 2) hF_ (by omega) (by omega))
  have hT := hT.kept (fun q h1 h2 => hF_.2 q (by omega))
  have ho : Ob G (a) 3 [.ref (a + 1), .int (w2 0), .int (w2 1), .int (w2 2), .int (w2 3), .int (w2 4), .int (w 5)] H5 := hO_
  clear hO_
  refine lv_aload_n E.1 E.2.1 dX3_copyAll_40 rfl (lv_at hl 0 rfl) ?_
  refine lv_aload_n E.1 E.2.1 dX3_copyAll_41 rfl (lv_at hl 1 rfl) ?_
  refine m_get E ho2 fw_X3_33 rfl dX3_copyAll_42 ?_
  refine m_put E ho fw_X3_33 fp_X3_6 rfl rfl (Nat.le_of_ble_eq_true rfl) hL (by omega) dX3_copyAll_45 (fun H6 locs hL hO_ hF_ => ?_)
  have ho2 := ho2.kept (hF_.2 _ (by omega))
  have hr := hr.kept (hF_.2 _ (by omega))
  have hr2 := hr2.kept (hF_.2 _ (by omega))
  have hS := hS.trans (FrS.of1 (lo := a) (hi := a + 2) hF_ (by omega) (by omega))
  have hT := hT.kept (fun q h1 h2 => hF_.2 q (by omega))
  have ho : Ob G (a) 3 [.ref (a + 1), .int (w2 0), .int (w2 1), .int (w2 2), .int (w2 3), .int (w2 4), .int (w2 5)] H6 := hO_
  clear hO_
  refine lv_aload_n E.1 E.2.1 dX3_copyAll_48 rfl (lv_at hl 0 rfl) ?_
  refine lv_aload_n E.1 E.2.1 dX3_copyAll_49 rfl (lv_at hl 1 rfl) ?_
  refine kVWV (As := [.ref (a2)]) E cw_X3_36 (c_X3_copyTable G l a a2 fb w2 w2 t t2 hga hd hfb) ho ⟨_, _, rfl⟩ ⟨⟨ho, hr⟩, ⟨ho2, hr2⟩, hT⟩ hL hl.1 rfl rfl (Nat.le_of_ble_eq_true rfl) ⟨Nat.le_of_ble_eq_true rfl, Nat.le_of_ble_eq_true rfl⟩ ⟨Nat.le_of_ble_eq_true rfl, Nat.le_of_ble_eq_true rfl⟩ dX3_copyAll_50 (fun H7 locs hL hw_ => ?_)
  obtain ⟨⟨ho, hr⟩, hq⟩ := hw_
  have hS := hS.trans (hq.wide (lo' := a) (hi' := a + 2) (by omega) (by omega))
  refine e_vret (rm := ({ frames := 1, cells := 0, slots := 0, locals := 22 } : Room)) E hL dX3_copyAll_53 ⟨rfl, ?_⟩
  exact ⟨⟨ho, hr⟩, hS⟩

set_option maxHeartbeats 4000000 in
set_option maxRecDepth 100000 in
theorem c_X3_fileOf (G : GG) (l : Launch) (a : Nat) (x : Int) (w : Nat → Int32) (t : Nat → Option Nat) (hx : okI x) : Ct G l yX3_fileOf cX3_fileOf 2 (some (.object "WriteOnceDisc$StoredFile")) ({ frames := 1, cells := 0, slots := 0, locals := 20 } : Room) [.ref (a), .int (iI (x))] (fun H => SesR G a w t H) (QE (if 0 ≤ x ∧ x < 20 then t x.toNat else none)) := by
  refine Ct.of (by decide +kernel) (Nat.le_of_ble_eq_true rfl) ?_
  intro p e s m args below meth c ls E hnm hP hl
  obtain ⟨ho, hr⟩ := hP
  obtain ⟨hx1, hx2⟩ := hx
  have hl : lv_has ls 2 [(0, .ref (a)), (1, .int (iI (x)))] := hl
  have hL : Lk G [] := Lk.nil
  generalize ([] : List Loc) = locs at hL ⊢
  refine lv_iload_n E.1 E.2.1 dX3_fileOf_0 rfl (lv_at hl 1 rfl) ?_
  refine kSNRE (As := [.int (iI (x))]) E cw_X3_40 (c_X5_isName G l (x) (by unfold okI; omega)) trivial hL hl.1 rfl rfl (Nat.le_of_ble_eq_true rfl) ⟨Nat.le_of_ble_eq_true rfl, Nat.le_of_ble_eq_true rfl⟩ ⟨rfl, rfl⟩ ⟨Nat.le_of_ble_eq_true rfl, Nat.le_of_ble_eq_true rfl⟩ dX3_fileOf_1 (fun locs hL => ?_)
  refine r_bif_eq (tgt := 16) E dX3_fileOf_4 (by decide)  (fun c4 => ?_) (fun c4 => ?_)
  · have c4 := of_decide_eq_false c4
    refine lv_null E.1 E.2.1 dX3_fileOf_16 ?_
    refine e_aret (rm := ({ frames := 1, cells := 0, slots := 0, locals := 20 } : Room)) (r := none) E hL dX3_fileOf_17 ?_
    exact ⟨by rw [if_neg (by omega)], rfl⟩
  · have c4 := of_decide_eq_true c4
    refine lv_aload_n E.1 E.2.1 dX3_fileOf_7 rfl (lv_at hl 0 rfl) ?_
    refine m_get E ho fw_X3_11 rfl dX3_fileOf_8 ?_
    refine lv_iload_n E.1 E.2.1 dX3_fileOf_11 rfl (lv_at hl 1 rfl) ?_
    refine r_aald E hr rfl ((x).toNat) (by omega) (by omega) (by decide) dX3_fileOf_12 ?_
    refine lv_goto (tgt := 17) E.1 E.2.1 dX3_fileOf_13 (by decide) ?_
    refine e_aret (rm := ({ frames := 1, cells := 0, slots := 0, locals := 20 } : Room)) (r := t ((x).toNat)) E hL dX3_fileOf_17 ?_
    exact ⟨by rw [if_pos (by omega)], rfl⟩

set_option maxHeartbeats 4000000 in
set_option maxRecDepth 100000 in
theorem c_X3_putFile (G : GG) (l : Launch) (a : Nat) (x : Int) (q : Option Nat) (w : Nat → Int32) (t : Nat → Option Nat) (hga : G.2.2 ≤ a) (hx : 0 ≤ x ∧ x < 20) : Ct G l yX3_putFile cX3_putFile 3 none ({ frames := 1, cells := 0, slots := 0, locals := 20 } : Room) [.ref (a), .int (iI (x)), va_rf (q)] (fun H => SesR G a w t H ∧ ∀ y, q = some y → ∃ vs, Ob G y 4 vs H) (WV (fun H H1 => SesR G a w (va_up t x.toNat q) H1 ∧ FrS (a + 1) (a + 2) H H1)) := by
  refine Ct.of (by decide +kernel) (by cases q <;> exact Nat.le_of_ble_eq_true rfl) ?_
  intro p e s m args below meth c ls E hnm hP hl
  obtain ⟨⟨ho, hr⟩, hq⟩ := hP
  obtain ⟨hx1, hx2⟩ := hx
  have hL : Lk G [] := Lk.nil
  generalize ([] : List Loc) = locs at hL ⊢
  have hS : FrS (a + 1) (a + 2) s.heap s.heap := FrS.rf
  cases q with
  | none =>
    have hl : lv_has ls 3 [(0, .ref (a)), (1, .int (iI (x))), (2, .null)] := hl
    refine lv_iload_n E.1 E.2.1 dX3_putFile_0 rfl (lv_at hl 1 rfl) ?_
    refine kSNRE (As := [.int (iI (x))]) E cw_X3_40 (c_X5_isName G l (x) (by unfold okI; omega)) trivial hL hl.1 rfl rfl (Nat.le_of_ble_eq_true rfl) ⟨Nat.le_of_ble_eq_true rfl, Nat.le_of_ble_eq_true rfl⟩ ⟨rfl, rfl⟩ ⟨Nat.le_of_ble_eq_true rfl, Nat.le_of_ble_eq_true rfl⟩ dX3_putFile_1 (fun locs hL => ?_)
    refine r_bif_eq (tgt := 14) E dX3_putFile_4 (by decide)  (fun c4 => absurd (of_decide_eq_false c4) (by omega)) (fun c4 => ?_)
    refine lv_aload_n E.1 E.2.1 dX3_putFile_7 rfl (lv_at hl 0 rfl) ?_
    refine m_get E ho fw_X3_11 rfl dX3_putFile_8 ?_
    refine lv_iload_n E.1 E.2.1 dX3_putFile_11 rfl (lv_at hl 1 rfl) ?_
    refine lv_aload_nN E.1 E.2.1 dX3_putFile_12 rfl (lv_at hl 2 rfl) ?_
    refine r_aastQ (v := none) E hr rfl (fun _ h => by cases h) (show vwCl[4]? = some _ from rfl) ((x).toNat) (by omega) (by omega) (by decide) hL (by omega) dX3_putFile_13 (fun H1 locs hL hO_ hF_ => ?_)
    have ho := ho.kept (hF_.2 _ (by omega))
    have hS := hS.trans (FrS.of1 (lo := a + 1) (hi := a + 2) hF_ (by omega) (by omega))
    have hr : Ra G (a + 1) 4 20 (va_up (t) ((x).toNat) (none)) H1 := hO_
    clear hO_
    refine e_vret (rm := ({ frames := 1, cells := 0, slots := 0, locals := 20 } : Room)) E hL dX3_putFile_14 ⟨rfl, ?_⟩
    exact ⟨⟨ho, hr⟩, hS⟩
  | some y =>
    obtain ⟨vs, hy⟩ := hq y rfl
    have hl : lv_has ls 3 [(0, .ref (a)), (1, .int (iI (x))), (2, .ref (y))] := hl
    refine lv_iload_n E.1 E.2.1 dX3_putFile_0 rfl (lv_at hl 1 rfl) ?_
    refine kSNRE (As := [.int (iI (x))]) E cw_X3_40 (c_X5_isName G l (x) (by unfold okI; omega)) trivial hL hl.1 rfl rfl (Nat.le_of_ble_eq_true rfl) ⟨Nat.le_of_ble_eq_true rfl, Nat.le_of_ble_eq_true rfl⟩ ⟨rfl, rfl⟩ ⟨Nat.le_of_ble_eq_true rfl, Nat.le_of_ble_eq_true rfl⟩ dX3_putFile_1 (fun locs hL => ?_)
    refine r_bif_eq (tgt := 14) E dX3_putFile_4 (by decide)  (fun c4 => absurd (of_decide_eq_false c4) (by omega)) (fun c4 => ?_)
    refine lv_aload_n E.1 E.2.1 dX3_putFile_7 rfl (lv_at hl 0 rfl) ?_
    refine m_get E ho fw_X3_11 rfl dX3_putFile_8 ?_
    refine lv_iload_n E.1 E.2.1 dX3_putFile_11 rfl (lv_at hl 1 rfl) ?_
    refine lv_aload_n E.1 E.2.1 dX3_putFile_12 rfl (lv_at hl 2 rfl) ?_
    refine r_aastQ (v := some (y)) E hr rfl (fun _ h => by cases h; exact ⟨_, hy⟩) (show vwCl[4]? = some _ from rfl) ((x).toNat) (by omega) (by omega) (by decide) hL (by omega) dX3_putFile_13 (fun H1 locs hL hO_ hF_ => ?_)
    have ho := ho.kept (hF_.2 _ (by omega))
    have hS := hS.trans (FrS.of1 (lo := a + 1) (hi := a + 2) hF_ (by omega) (by omega))
    have hr : Ra G (a + 1) 4 20 (va_up (t) ((x).toNat) (some (y))) H1 := hO_
    clear hO_
    refine e_vret (rm := ({ frames := 1, cells := 0, slots := 0, locals := 20 } : Room)) E hL dX3_putFile_14 ⟨rfl, ?_⟩
    exact ⟨⟨ho, hr⟩, hS⟩

set_option maxHeartbeats 4000000 in
set_option maxRecDepth 100000 in
theorem c_X3_countEntries (G : GG) (l : Launch) (a : Nat) (w : Nat → Int32) (t : Nat → Option Nat) : Ct G l yX3_countEntries cX3_countEntries 3 (some .int) ({ frames := 0, cells := 0, slots := 0, locals := 0 } : Room) [.ref (a)] (fun H => SesR G a w t H) (RE (iI (cntB (fun k => (t k).isSome) 20))) := by
  refine Ct.of (by decide +kernel) (Nat.le_of_ble_eq_true rfl) ?_
  intro p e s m args below meth c ls E hnm hP hl
  obtain ⟨ho, hr⟩ := hP
  have hl : lv_has ls 3 [(0, .ref (a))] := hl
  have hL : Lk G [] := Lk.nil
  generalize ([] : List Loc) = locs at hL ⊢
  refine r_const E dX3_countEntries_0 ?_
  refine lv_istore_n (lv' := [(1, .int (iI (0))), (0, .ref (a))]) E.1 E.2.1 dX3_countEntries_1 rfl hl (by decide) rfl (fun ls hl => ?_)
  refine r_const E dX3_countEntries_2 ?_
  refine lv_istore_n (lv' := [(2, .int (iI (0))), (1, .int (iI (0))), (0, .ref (a))]) E.1 E.2.1 dX3_countEntries_3 rfl hl (by decide) rfl (fun ls hl => ?_)
  have LP4 : ∀ (kin4 : Nat) (n : Nat) (v : Int) (ls : Array Slot) (locs : List Loc) (hn : n ≤ 20) (hv : v = (cntB (fun k => (t k).isSome) n : Nat)) (hkin4 : 20 - n = kin4) (hl : lv_has ls 3 [(2, .int (iI ((n : Int)))), (1, .int (iI (v))), (0, .ref (a))]) (hL : Lk G locs), W p l e ({ frames := 0, cells := 0, slots := 0, locals := 0 } : Room) s m args below meth c s.heap locs 0 0 (QQ G below args s ({ frames := 0, cells := 0, slots := 0, locals := 0 } : Room) (RE (iI (cntB (fun k => (t k).isSome) 20)))) (F0 m 4 ls []) := by
    intro kin4
    induction kin4 using Nat.strongRecOn with
    | ind kin4 ihin4 =>
      intro n v ls locs hn hv hkin4 hl hL
      refine lv_iload_n E.1 E.2.1 dX3_countEntries_4 rfl (lv_at hl 0 rfl) ?_
      refine r_bipush E dX3_countEntries_5 (by decide) ?_
      refine r_icmp_ge (tgt := 28) E dX3_countEntries_7 (by decide) (by omega) (by omega) (fun c7 => ?_) (fun c7 => ?_)
      · refine lv_iload_n E.1 E.2.1 dX3_countEntries_28 rfl (lv_at hl 1 rfl) ?_
        refine e_iret (rm := ({ frames := 0, cells := 0, slots := 0, locals := 0 } : Room)) (v := iI (v)) E hL dX3_countEntries_29 ?_
        have hn20 : n = 20 := by omega
        subst hn20
        exact RE_i hv
      · refine lv_aload_n E.1 E.2.1 dX3_countEntries_10 rfl (lv_at hl 2 rfl) ?_
        refine m_get E ho fw_X3_11 rfl dX3_countEntries_11 ?_
        refine lv_iload_n E.1 E.2.1 dX3_countEntries_14 rfl (lv_at hl 0 rfl) ?_
        refine r_aald E hr rfl (n) rfl (by omega) (by decide) dX3_countEntries_15 ?_
        rcases htn : t n with _ | y
        · refine lv_ifnullN (tgt := 22) E.1 E.2.1 dX3_countEntries_16 (by decide) ?_
          refine r_inc (lv' := [(2, .int (iI ((n : Int) + 1))), (1, .int (iI (v))), (0, .ref (a))]) E dX3_countEntries_22 hl (k := 0) rfl (by decide) rfl (fun ls hl => ?_)
          refine lv_goto (tgt := 4) E.1 E.2.1 dX3_countEntries_25 (by decide) ?_
          refine ihin4 _ ?_ (n + 1) v ls locs ?_ ?_ rfl (lv_sub hl [0, 1, 2] rfl) hL
          · omega
          · omega
          · rw [hv]; simp [cntB, htn]
        · refine lv_ifnull E.1 E.2.1 dX3_countEntries_16 ?_
          refine r_inc (lv' := [(1, .int (iI (v + 1))), (2, .int (iI ((n : Int)))), (0, .ref (a))]) E dX3_countEntries_19 hl (k := 1) rfl (by decide) rfl (fun ls hl => ?_)
          refine r_inc (lv' := [(2, .int (iI ((n : Int) + 1))), (1, .int (iI (v + 1))), (0, .ref (a))]) E dX3_countEntries_22 hl (k := 1) rfl (by decide) rfl (fun ls hl => ?_)
          refine lv_goto (tgt := 4) E.1 E.2.1 dX3_countEntries_25 (by decide) ?_
          refine ihin4 _ ?_ (n + 1) (v + 1) ls locs ?_ ?_ rfl (lv_sub hl [0, 1, 2] rfl) hL
          · omega
          · omega
          · rw [hv]; simp [cntB, htn]
  refine LP4 _ 0 0 ls locs ?_ ?_ rfl (lv_sub hl [0, 1, 2] rfl) hL
  · decide
  · rfl

set_option maxHeartbeats 4000000 in
set_option maxRecDepth 100000 in
theorem c_X3_hasTaken (G : GG) (l : Launch) (a : Nat) (x : Int) (row : Nat → Nat) (hb : ∀ k, k < 5 → row k < 100000) (hx : 0 ≤ x ∧ x < 240) : Ct G l yX3_hasTaken cX3_hasTaken 2 (some .boolean) ({ frames := 0, cells := 0, slots := 0, locals := 0 } : Room) [.ref (a), .int (iI (x))] (fun H => Ob G a 3 [.ref (a + 1), .int (iI (row 0)), .int (iI (row 1)), .int (iI ((row 1 : Int) + (row 2 : Int))), .int (iI (row 3)), .int (iI (row 4)), .int (iI (row 5))] H) (RE (b2i (decide ((row 1 : Int) ≤ x ∧ x < row 1 + row 2)))) := by
  refine Ct.of (by decide +kernel) (Nat.le_of_ble_eq_true rfl) ?_
  intro p e s m args below meth c ls E hnm hP hl
  have ho := hP
  obtain ⟨hx1, hx2⟩ := hx
  have hb0 := hb 0 (by decide)
  have hb1 := hb 1 (by decide)
  have hb2 := hb 2 (by decide)
  have hb3 := hb 3 (by decide)
  have hb4 := hb 4 (by decide)
  have hl : lv_has ls 2 [(0, .ref (a)), (1, .int (iI (x)))] := hl
  have hL : Lk G [] := Lk.nil
  generalize ([] : List Loc) = locs at hL ⊢
  refine lv_iload_n E.1 E.2.1 dX3_hasTaken_0 rfl (lv_at hl 1 rfl) ?_
  refine lv_aload_n E.1 E.2.1 dX3_hasTaken_1 rfl (lv_at hl 0 rfl) ?_
  refine m_get E ho fw_X3_21 rfl dX3_hasTaken_2 ?_
  refine r_icmp_lt (tgt := 20) E dX3_hasTaken_5 (by decide) (by omega) (by omega) (fun c5 => ?_) (fun c5 => ?_)
  · refine r_const E dX3_hasTaken_20 ?_
    refine e_zret (rm := ({ frames := 0, cells := 0, slots := 0, locals := 0 } : Room)) (v := iI (0)) E hL rfl dX3_hasTaken_21 ?_
    exact RE_f (decide_eq_false (by omega))
  · refine lv_iload_n E.1 E.2.1 dX3_hasTaken_8 rfl (lv_at hl 1 rfl) ?_
    refine lv_aload_n E.1 E.2.1 dX3_hasTaken_9 rfl (lv_at hl 0 rfl) ?_
    refine m_get E ho fw_X3_24 rfl dX3_hasTaken_10 ?_
    refine r_icmp_ge (tgt := 20) E dX3_hasTaken_13 (by decide) (by omega) (by omega) (fun c13 => ?_) (fun c13 => ?_)
    · refine r_const E dX3_hasTaken_20 ?_
      refine e_zret (rm := ({ frames := 0, cells := 0, slots := 0, locals := 0 } : Room)) (v := iI (0)) E hL rfl dX3_hasTaken_21 ?_
      exact RE_f (decide_eq_false (by omega))
    · refine r_const E dX3_hasTaken_16 ?_
      refine lv_goto (tgt := 21) E.1 E.2.1 dX3_hasTaken_17 (by decide) ?_
      refine e_zret (rm := ({ frames := 0, cells := 0, slots := 0, locals := 0 } : Room)) (v := iI (1)) E hL rfl dX3_hasTaken_21 ?_
      exact RE_t (decide_eq_true (by omega))

set_option maxHeartbeats 4000000 in
set_option maxRecDepth 100000 in
theorem c_X3_useOf (G : GG) (l : Launch) (a : Nat) (x : Int) (row : Nat → Nat) (hb : ∀ k, k < 5 → row k < 100000) (hx : 0 ≤ x ∧ x < 240) : Ct G l yX3_useOf cX3_useOf 2 (some .int) ({ frames := 0, cells := 0, slots := 0, locals := 0 } : Room) [.ref (a), .int (iI (x))] (fun H => Ob G a 3 [.ref (a + 1), .int (iI (row 0)), .int (iI (row 1)), .int (iI ((row 1 : Int) + (row 2 : Int))), .int (iI (row 3)), .int (iI (row 4)), .int (iI (row 5))] H) (RE (iI (if x < row 1 + row 3 then 1 else if row 0 = 1 ∧ (row 1 : Int) + row 2 - row 4 ≤ x then 2 else 3))) := by
  refine Ct.of (by decide +kernel) (Nat.le_of_ble_eq_true rfl) ?_
  intro p e s m args below meth c ls E hnm hP hl
  have ho := hP
  obtain ⟨hx1, hx2⟩ := hx
  have hb0 := hb 0 (by decide)
  have hb1 := hb 1 (by decide)
  have hb2 := hb 2 (by decide)
  have hb3 := hb 3 (by decide)
  have hb4 := hb 4 (by decide)
  have hl : lv_has ls 2 [(0, .ref (a)), (1, .int (iI (x)))] := hl
  have hL : Lk G [] := Lk.nil
  generalize ([] : List Loc) = locs at hL ⊢
  refine lv_iload_n E.1 E.2.1 dX3_useOf_0 rfl (lv_at hl 1 rfl) ?_
  refine lv_aload_n E.1 E.2.1 dX3_useOf_1 rfl (lv_at hl 0 rfl) ?_
  refine m_get E ho fw_X3_21 rfl dX3_useOf_2 ?_
  refine lv_aload_n E.1 E.2.1 dX3_useOf_5 rfl (lv_at hl 0 rfl) ?_
  refine m_get E ho fw_X3_27 rfl dX3_useOf_6 ?_
  refine r_add E dX3_useOf_9 ?_
  refine r_icmp_ge (tgt := 15) E dX3_useOf_10 (by decide) (by omega) (by omega) (fun c10 => ?_) (fun c10 => ?_)
  · refine lv_aload_n E.1 E.2.1 dX3_useOf_15 rfl (lv_at hl 0 rfl) ?_
    refine m_get E ho fw_X3_17 rfl dX3_useOf_16 ?_
    refine r_const E dX3_useOf_19 ?_
    refine r_icmp_ne (tgt := 38) E dX3_useOf_20 (by decide) (by omega) (by omega) (fun c20 => ?_) (fun c20 => ?_)
    · refine r_const E dX3_useOf_38 ?_
      refine e_iret (rm := ({ frames := 0, cells := 0, slots := 0, locals := 0 } : Room)) (v := iI (3)) E hL dX3_useOf_39 ?_
      exact RE_i (by rw [if_neg (by omega), if_neg (by omega)])
    · refine lv_iload_n E.1 E.2.1 dX3_useOf_23 rfl (lv_at hl 1 rfl) ?_
      refine lv_aload_n E.1 E.2.1 dX3_useOf_24 rfl (lv_at hl 0 rfl) ?_
      refine m_get E ho fw_X3_24 rfl dX3_useOf_25 ?_
      refine lv_aload_n E.1 E.2.1 dX3_useOf_28 rfl (lv_at hl 0 rfl) ?_
      refine m_get E ho fw_X3_30 rfl dX3_useOf_29 ?_
      refine r_sub E dX3_useOf_32 ?_
      refine r_icmp_lt (tgt := 38) E dX3_useOf_33 (by decide) (by omega) (by omega) (fun c33 => ?_) (fun c33 => ?_)
      · refine r_const E dX3_useOf_38 ?_
        refine e_iret (rm := ({ frames := 0, cells := 0, slots := 0, locals := 0 } : Room)) (v := iI (3)) E hL dX3_useOf_39 ?_
        exact RE_i (by rw [if_neg (by omega), if_neg (by omega)])
      · refine r_const E dX3_useOf_36 ?_
        refine e_iret (rm := ({ frames := 0, cells := 0, slots := 0, locals := 0 } : Room)) (v := iI (2)) E hL dX3_useOf_37 ?_
        exact RE_i (by rw [if_neg (by omega), if_pos (by omega)])
  · refine r_const E dX3_useOf_13 ?_
    refine e_iret (rm := ({ frames := 0, cells := 0, slots := 0, locals := 0 } : Room)) (v := iI (1)) E hL dX3_useOf_14 ?_
    exact RE_i (by rw [if_pos (by omega)])

set_option maxHeartbeats 4000000 in
set_option maxRecDepth 100000 in
theorem c_X4_init (G : GG) (l : Launch) (a : Nat) (x y z : Int) (hga : G.2.2 ≤ a) : Ct G l yX4_init cX4_init 4 none ({ frames := 1, cells := 0, slots := 0, locals := 24 } : Room) [.ref (a), .int (iI (x)), .int (iI (y)), .int (iI (z))] (fun H => Ob G a 4 [.int 0, .int 0, .int 0] H) (WV (fun H H1 => Ob G a 4 [.int (iI x), .int (iI y), .int (iI z)] H1 ∧ FrS a (a + 1) H H1)) := by
  refine Ct.of (by decide +kernel) (Nat.le_of_ble_eq_true rfl) ?_
  intro p e s m args below meth c ls E hnm hP hl
  have ho := hP
  have hS : FrS a (a + 1) s.heap s.heap := FrS.rf
  have hl : lv_has ls 4 [(0, .ref (a)), (1, .int (iI (x))), (2, .int (iI (y))), (3, .int (iI (z)))] := hl
  have hL : Lk G [] := Lk.nil
  generalize ([] : List Loc) = locs at hL ⊢
  refine lv_aload_n E.1 E.2.1 dX4_init_0 rfl (lv_at hl 0 rfl) ?_
  refine m_objinit E oi_X4 hl.1 (Nat.le_of_ble_eq_true rfl) (Nat.le_of_ble_eq_true rfl) dX4_init_1 ?_
  refine lv_aload_n E.1 E.2.1 dX4_init_4 rfl (lv_at hl 0 rfl) ?_
  refine lv_iload_n E.1 E.2.1 dX4_init_5 rfl (lv_at hl 1 rfl) ?_
  refine m_putF E hnm ho fw_X4_7 fp_X4_0 rfl rfl (Nat.le_of_ble_eq_true rfl) hL (by omega) ⟨_, _, rfl⟩ dX4_init_6 (fun H1 locs hL hO_ hF_ => ?_)
  have hS := hS.trans (FrS.of1 (lo := a) (hi := a + 1) hF_ (by omega) (by omega))
  have ho : Ob G (a) 4 [.int (iI (x)), .int (0), .int (0)] H1 := hO_
  clear hO_
  refine lv_aload_n E.1 E.2.1 dX4_init_9 rfl (lv_at hl 0 rfl) ?_
  refine lv_iload_n E.1 E.2.1 dX4_init_10 rfl (lv_at hl 2 rfl) ?_
  refine m_putF E hnm ho fw_X4_13 fp_X4_1 rfl rfl (Nat.le_of_ble_eq_true rfl) hL (by omega) ⟨_, _, rfl⟩ dX4_init_11 (fun H2 locs hL hO_ hF_ => ?_)
  have hS := hS.trans (FrS.of1 (lo := a) (hi := a + 1) hF_ (by omega) (by omega))
  have ho : Ob G (a) 4 [.int (iI (x)), .int (iI (y)), .int (0)] H2 := hO_
  clear hO_
  refine lv_aload_n E.1 E.2.1 dX4_init_14 rfl (lv_at hl 0 rfl) ?_
  refine lv_iload_n E.1 E.2.1 dX4_init_15 rfl (lv_at hl 3 rfl) ?_
  refine m_putF E hnm ho fw_X4_16 fp_X4_2 rfl rfl (Nat.le_of_ble_eq_true rfl) hL (by omega) ⟨_, _, rfl⟩ dX4_init_16 (fun H3 locs hL hO_ hF_ => ?_)
  have hS := hS.trans (FrS.of1 (lo := a) (hi := a + 1) hF_ (by omega) (by omega))
  have ho : Ob G (a) 4 [.int (iI (x)), .int (iI (y)), .int (iI (z))] H3 := hO_
  clear hO_
  refine e_vret (rm := ({ frames := 1, cells := 0, slots := 0, locals := 24 } : Room)) E hL dX4_init_19 ⟨rfl, ?_⟩
  exact ⟨ho, hS⟩
end
section
/-! what holds of every state that a run of calls reaches -/
def Inv (σ : St) : Prop :=
  mn σ ≤ 12 ∧ nx σ ≤ 240 ∧ (2 ≤ s0 σ ∧ s0 σ ≤ 9) ∧ (1 ≤ s1 σ ∧ s1 σ ≤ 9) ∧ (mn σ = 0 → nx σ = 0) ∧ (0 < mn σ → se σ 0 1 = 0) ∧
  (∀ n, n + 1 < mn σ → se σ n 1 + se σ n 2 = se σ (n + 1) 1) ∧ (∀ n, n + 1 = mn σ → se σ n 1 + se σ n 2 = nx σ) ∧
  (∀ n, n < mn σ → se σ n 0 ≤ 2 ∧ (se σ n 0 = 0 → n + 1 = mn σ) ∧ (2 ≤ se σ n 3 ∧ se σ n 3 ≤ 9) ∧ (1 ≤ se σ n 4 ∧ se σ n 4 ≤ 9) ∧ se σ n 3 ≤ se σ n 2 ∧ (se σ n 0 = 1 → se σ n 3 + se σ n 4 ≤ se σ n 2) ∧ (n + 1 = mn σ → se σ n 0 ≠ 1 → se σ n 1 + se σ n 2 + se σ n 4 ≤ 240) ∧ se σ n 1 + se σ n 2 ≤ nx σ) ∧
  (∀ n k f, n < mn σ → k < 20 → en σ n k = some f → f.2.2 ≤ n ∧ (1 ≤ f.2.1 ∧ f.2.1 ≤ 40) ∧ se σ f.2.2 1 + se σ f.2.2 3 ≤ f.1 ∧ f.1 + f.2.1 + (if se σ f.2.2 0 = 1 then se σ f.2.2 4 else 0) ≤ se σ f.2.2 1 + se σ f.2.2 2) ∧
  (∀ n n' k k' f f', n < mn σ → n' < mn σ → k < 20 → k' < 20 → k ≠ k' → en σ n k = some f → en σ n' k' = some f' → f.1 + f.2.1 ≤ f'.1 ∨ f'.1 + f'.2.1 ≤ f.1)
theorem Inv.mn12 {σ : St} (h : Inv σ) : mn σ ≤ 12 := h.1
theorem Inv.nx240 {σ : St} (h : Inv σ) : nx σ ≤ 240 := h.2.1
theorem Inv.s0b {σ : St} (h : Inv σ) : 2 ≤ s0 σ ∧ s0 σ ≤ 9 := h.2.2.1
theorem Inv.s1b {σ : St} (h : Inv σ) : 1 ≤ s1 σ ∧ s1 σ ≤ 9 := h.2.2.2.1
theorem Inv.nx0 {σ : St} (h : Inv σ) : mn σ = 0 → nx σ = 0 := h.2.2.2.2.1
theorem Inv.first {σ : St} (h : Inv σ) : 0 < mn σ → se σ 0 1 = 0 := h.2.2.2.2.2.1
theorem Inv.cont {σ : St} (h : Inv σ) : ∀ n, n + 1 < mn σ → se σ n 1 + se σ n 2 = se σ (n + 1) 1 := h.2.2.2.2.2.2.1
theorem Inv.last {σ : St} (h : Inv σ) : ∀ n, n + 1 = mn σ → se σ n 1 + se σ n 2 = nx σ := h.2.2.2.2.2.2.2.1
theorem Inv.row {σ : St} (h : Inv σ) {n : Nat} (hn : n < mn σ) : se σ n 0 ≤ 2 ∧ (se σ n 0 = 0 → n + 1 = mn σ) ∧ (2 ≤ se σ n 3 ∧ se σ n 3 ≤ 9) ∧ (1 ≤ se σ n 4 ∧ se σ n 4 ≤ 9) ∧ se σ n 3 ≤ se σ n 2 ∧ (se σ n 0 = 1 → se σ n 3 + se σ n 4 ≤ se σ n 2) ∧ (n + 1 = mn σ → se σ n 0 ≠ 1 → se σ n 1 + se σ n 2 + se σ n 4 ≤ 240) ∧ se σ n 1 + se σ n 2 ≤ nx σ := h.2.2.2.2.2.2.2.2.1 n hn
theorem Inv.ent {σ : St} (h : Inv σ) {n k : Nat} {f : Fil} (hn : n < mn σ) (hk : k < 20) (hf : en σ n k = some f) : f.2.2 ≤ n ∧ (1 ≤ f.2.1 ∧ f.2.1 ≤ 40) ∧ se σ f.2.2 1 + se σ f.2.2 3 ≤ f.1 ∧ f.1 + f.2.1 + (if se σ f.2.2 0 = 1 then se σ f.2.2 4 else 0) ≤ se σ f.2.2 1 + se σ f.2.2 2 := h.2.2.2.2.2.2.2.2.2.1 n k f hn hk hf
theorem Inv.ent2 {σ : St} (h : Inv σ) {n k : Nat} {f : Fil} (hn : n < mn σ) (hk : k < 20) (hf : en σ n k = some f) : f.1 + f.2.1 ≤ nx σ ∧ f.1 + f.2.1 ≤ 240 ∧ (1 ≤ f.2.1 ∧ f.2.1 ≤ 40) ∧ f.2.2 < mn σ := by
  obtain ⟨h1, h2, h3, h4⟩ := h.ent hn hk hf
  have h5 := (h.row (Nat.lt_of_le_of_lt h1 hn)).2.2.2.2.2.2.2
  have h6 := h.nx240
  refine ⟨by split at h4 <;> omega, by split at h4 <;> omega, h2, by omega⟩
theorem Inv.rowb {σ : St} (h : Inv σ) {n : Nat} (hn : n < mn σ) : ∀ k, k < 5 → se σ n k < 100000 := by
  have h1 := h.row hn
  have h2 := h.nx240
  intro k hk
  rcases (show k = 0 ∨ k = 1 ∨ k = 2 ∨ k = 3 ∨ k = 4 by omega) with rfl | rfl | rfl | rfl | rfl <;> omega
theorem Inv.mono {σ : St} (h : Inv σ) : ∀ d n, n + d + 1 < mn σ → se σ n 1 + se σ n 2 ≤ se σ (n + d + 1) 1 := by
  intro d
  induction d with
  | zero => intro n hn; exact Nat.le_of_eq (h.cont n hn)
  | succ d ih =>
    intro n hn
    have h1 := ih n (by omega)
    have h2 := h.cont (n + d + 1) (by omega)
    have h3 : n + (d + 1) + 1 = n + d + 1 + 1 := by omega
    rw [h3, ← h2]
    omega
theorem Inv.apart {σ : St} (h : Inv σ) {n n' : Nat} (hn : n < n') (hn' : n' < mn σ) : se σ n 1 + se σ n 2 ≤ se σ n' 1 := by
  have := h.mono (n' - n - 1) n (by omega)
  rwa [show n + (n' - n - 1) + 1 = n' by omega] at this
theorem wholeB_iff {d : Nat → Bool} {a : Nat} : ∀ {c : Nat}, wholeB d a c = true ↔ ∀ k, a ≤ k → k < a + c → d k = false
  | 0 => by simp [wholeB]; omega
  | c + 1 => by
    have ih := @wholeB_iff d a c
    rw [wholeB, Bool.and_eq_true, ih]
    constructor
    · rintro ⟨h1, h2⟩ k hk hk2
      by_cases he : k = a + c
      · subst he; simpa using h2
      · exact h1 k hk (by omega)
    · intro h1
      refine ⟨fun k hk hk2 => h1 k hk (by omega), ?_⟩
      have := h1 (a + c) (by omega) (by omega)
      simp [this]
theorem wholeB_f {d : Nat → Bool} {a c k : Nat} (h1 : a ≤ k) (h2 : k < a + c) (hd : d k = true) : wholeB d a c = false := by
  cases hw : wholeB d a c with
  | false => rfl
  | true => have := wholeB_iff.mp hw k h1 h2; rw [hd] at this; cases this
theorem wholeB_congr {d d' : Nat → Bool} {a c : Nat} (h : ∀ k, a ≤ k → k < a + c → d k = d' k) : wholeB d a c = wholeB d' a c := by
  cases hw : wholeB d' a c with
  | true => rw [wholeB_iff]; intro k h1 h2; rw [h k h1 h2]; exact wholeB_iff.mp hw k h1 h2
  | false =>
    cases hw2 : wholeB d a c with
    | false => rfl
    | true =>
      have : wholeB d' a c = true := by rw [wholeB_iff]; intro k h1 h2; rw [← h k h1 h2]; exact wholeB_iff.mp hw2 k h1 h2
      rw [this] at hw; cases hw
theorem lastB_some {p : Nat → Bool} : ∀ {N n : Nat}, lastB p N = some n ↔ (n < N ∧ p n = true ∧ ∀ k, n < k → k < N → p k = false)
  | 0, n => by simp [lastB]
  | N + 1, n => by
    have ih := @lastB_some p N n
    rw [lastB]
    by_cases h : p N = true
    · rw [if_pos h]
      constructor
      · intro he; cases he; exact ⟨by omega, h, fun k h1 h2 => by omega⟩
      · rintro ⟨h1, h2, h3⟩
        by_cases he : n = N
        · rw [he]
        · have := h3 N (by omega) (by omega); rw [h] at this; cases this
    · rw [if_neg h, ih]
      constructor
      · rintro ⟨h1, h2, h3⟩
        refine ⟨by omega, h2, fun k h4 h5 => ?_⟩
        by_cases he : k = N
        · rw [he]; simpa using h
        · exact h3 k h4 (by omega)
      · rintro ⟨h1, h2, h3⟩
        refine ⟨?_, h2, fun k h4 h5 => h3 k h4 (by omega)⟩
        by_cases he : n = N
        · rw [he] at h2; exact absurd h2 h
        · omega
theorem lastB_none {p : Nat → Bool} : ∀ {N : Nat}, lastB p N = none ↔ ∀ k, k < N → p k = false
  | 0 => by simp [lastB]
  | N + 1 => by
    have ih := @lastB_none p N
    rw [lastB]
    by_cases h : p N = true
    · rw [if_pos h]
      constructor
      · intro he; cases he
      · intro h1; have := h1 N (by omega); rw [h] at this; cases this
    · rw [if_neg h, ih]
      constructor
      · intro h1 k hk
        by_cases he : k = N
        · rw [he]; simpa using h
        · exact h1 k (by omega)
      · intro h1 k hk; exact h1 k (by omega)
theorem lastB_congr {p q : Nat → Bool} : ∀ {N : Nat}, (∀ k, k < N → p k = q k) → lastB p N = lastB q N
  | 0, _ => rfl
  | N + 1, h => by rw [lastB, lastB, h N (by omega), lastB_congr (fun k hk => h k (by omega))]
theorem cntB_congr {p q : Nat → Bool} : ∀ {N : Nat}, (∀ k, k < N → p k = q k) → cntB p N = cntB q N
  | 0, _ => rfl
  | N + 1, h => by rw [cntB, cntB, h N (by omega), cntB_congr (fun k hk => h k (by omega))]
theorem cntB_le (p : Nat → Bool) : ∀ N, cntB p N ≤ N
  | 0 => Nat.le_refl _
  | N + 1 => by have := cntB_le p N; rw [cntB]; split <;> omega
theorem sumF_congr {p q : Nat → Nat} : ∀ {N : Nat}, (∀ k, k < N → p k = q k) → sumF p N = sumF q N
  | 0, _ => rfl
  | N + 1, h => by rw [sumF, sumF, h N (by omega), sumF_congr (fun k hk => h k (by omega))]
theorem validD_lt {σ : St} {d : Nat → Bool} {n : Nat} (h : validD σ d = some n) : n < mn σ := (lastB_some.mp h).1
theorem dmH_m1 {σ : St} {h : Int} (hh : h < 0) : dmH σ h = dm σ := by
  funext k
  have : ¬ ((k : Int) = h) := by omega
  simp [dmH, this]
theorem opn_some {σ : St} {n : Nat} (h : opn σ = some n) : n + 1 = mn σ ∧ se σ n 0 = 0 := by
  unfold opn at h
  split at h
  · next hc => cases h; exact ⟨by omega, hc.2⟩
  · cases h
theorem opn_none {σ : St} (h : opn σ = none) : mn σ = 0 ∨ (0 < mn σ ∧ ¬ se σ (mn σ - 1) 0 = 0) := by
  unfold opn at h
  split at h
  · cases h
  · next hc => omega
theorem opn_of {σ : St} {n : Nat} (h1 : n + 1 = mn σ) (h2 : se σ n 0 = 0) : opn σ = some n := by
  unfold opn
  rw [if_pos ⟨by omega, by rw [show mn σ - 1 = n by omega]; exact h2⟩, show mn σ - 1 = n by omega]
theorem opn_no {σ : St} {n : Nat} (h1 : n + 1 = mn σ) (h2 : ¬ se σ n 0 = 0) : opn σ = none := by
  unfold opn
  rw [if_neg]
  rintro ⟨h3, h4⟩
  rw [show mn σ - 1 = n by omega] at h4
  exact h2 h4
theorem opn_0 {σ : St} (h : mn σ = 0) : opn σ = none := by
  unfold opn
  rw [if_neg]
  omega
theorem sesAt_of {σ : St} (h : Inv σ) {n k : Nat} (hn : n < mn σ) (h1 : se σ n 1 ≤ k) (h2 : k < se σ n 1 + se σ n 2) : sesAt σ k = some n := by
  refine lastB_some.mpr ⟨hn, decide_eq_true ⟨h1, h2⟩, fun j hj hj2 => decide_eq_false ?_⟩
  have := h.apart hj hj2
  omega
theorem sesAt_no {σ : St} {k : Nat} (h : ∀ n, n < mn σ → ¬ (se σ n 1 ≤ k ∧ k < se σ n 1 + se σ n 2)) : sesAt σ k = none := lastB_none.mpr (fun j hj => decide_eq_false (h j hj))
/-- an answer that is a reference, of which something is told -/
def QX (P : Option Nat → Prop) : Option Value → Heap → Heap → Prop := fun v H H1 => ∃ r, v = some (va_rf r) ∧ H1 = H ∧ P r
section MCX
variable {p : Program} {l : Launch} {e : Env} {R : Room} {s : State} {m : MethodId} {args : Array Value} {below : List Frame} {meth : Method} {c : Code} {H : Heap} {locs : List Loc} {cells slots : Nat} {Q : State → Prop}
variable {G : GG} {cc : ByteArray} {n : Nat} {ret : Option FieldType} {own : String} {pc : Nat} {ls : Array Slot} {st rest : List Value}
theorem kVQX (E : En G p s m args meth c cc n ret own) {y : MethodName} {b : ByteArray} {mL k idx : Nat} {ret' : Option FieldType} {a ci : Nat} {fs : List Value} {rm' : Room} {As : List Value} {Pre : Heap → Prop} {Pq : Option Nat → Prop} (hC : CWV own idx y b mL ret' k) (hM : Ct G l y b mL ret' rm' (.ref a :: As) Pre (QX Pq)) (hO : Ob G a ci fs H) (hc : ∃ T N, vwCl[ci]? = some (y.cls, T, N)) (hp : Pre H) (hL : Lk G locs) (hls : ls.size = n) (hst : st = As.reverse ++ .ref a :: rest) (hk : As.length = k) (hW : (rest.map fun v => v.category).sum ≤ 8) (hR : rm'.frames + 1 ≤ R.frames ∧ 8 + (mL + 11) + rm'.locals ≤ R.locals) (hz : rm'.cells = 0 ∧ rm'.slots = 0) (hf : cells ≤ R.cells ∧ slots ≤ R.slots) (hdg : decode cc pc = .ok (.invokevirtual idx, 3))
    (kk : ∀ (r : Option Nat) (locs1 : List Loc), Lk G locs1 → Pq r → W p l e R s m args below meth c H locs1 cells slots Q (F0 m (pc + 3) ls (va_rf r :: rest))) : W p l e R s m args below meth c H locs cells slots Q (F0 m pc ls st) :=
  m_callV E hC hM hO hc hp hL hls hst hk hW hR (by rw [hz.1, hz.2]; exact hf) hdg (fun v H1 locs1 hL1 hv => by
    obtain ⟨r, rfl, rfl, hr⟩ := hv
    rw [hz.1, hz.2]
    exact kk r locs1 hL1 hr)
end MCX
theorem dmH_h {σ : St} {h : Int} {k : Nat} (e : (k : Int) = h) : dmH σ h k = true := by simp [dmH, e]
theorem dmH_d {σ : St} {h : Int} {k : Nat} (e : dm σ k = true) : dmH σ h k = true := by simp [dmH, e]
theorem dmH_n {σ : St} {h : Int} {k : Nat} (e : dm σ k = false) (e2 : ¬ (k : Int) = h) : dmH σ h k = false := by simp [dmH, e, e2]
/-- the class's own way to the most harmful sector -/
def mh (f : Nat → Nat) (x y : Nat) : Nat := if f x = f y then min x y else if f x < f y then x else y
def hurtCnt (σ : St) (k : Nat) : Nat := cntIntact σ (dmH σ k)
def mhF (σ : St) (n : Nat) : Nat → Nat
  | 0 => mh (hurtCnt σ) 0 (se σ n 1)
  | k + 1 => match en σ n k with
    | none => mhF σ n k
    | some g => mh (hurtCnt σ) (mhF σ n k) g.1
def worstH (σ : St) : Nat := match validD σ (dm σ) with
  | none => 0
  | some n => mhF σ n 20
theorem mh_lt {f : Nat → Nat} {x y N : Nat} (hx : x < N) (hy : y < N) : mh f x y < N := by
  unfold mh
  split
  · omega
  · split <;> omega
theorem cntIntact_le (σ : St) (d : Nat → Bool) : cntIntact σ d ≤ 20 := by
  unfold cntIntact
  split
  · omega
  · exact cntB_le _ _
theorem roomN_le (σ : St) : roomN σ ≤ 240 := by
  unfold roomN
  split
  · omega
  · split <;> omega
end
section
set_option maxHeartbeats 4000000 in
set_option maxRecDepth 100000 in
theorem c_X1_sessionAt (G : GG) (l : Launch) (b : Nat) (fl : Nat → Option Fil) (σ : St) (hI : Inv σ) (x : Int) (hx : okI x) : Ct G l yX1_sessionAt cX1_sessionAt 2 (some (.object "WriteOnceDisc$Session")) ({ frames := 0, cells := 0, slots := 0, locals := 0 } : Room) [.ref (b), .int (iI (x))] (fun H => DiscAt G b fl σ H) (QE (if 0 ≤ x ∧ x < mn σ then some (b + 5 + 2 * x.toNat) else none)) := by
  refine Ct.of (by decide +kernel) (Nat.le_of_ble_eq_true rfl) ?_
  intro p e s m args below meth c ls E hnm hP hl
  have i1 := hI.mn12
  have i2 := hI.nx240
  obtain ⟨hx1, hx2⟩ := hx
  have hl : lv_has ls 2 [(0, .ref (b)), (1, .int (iI (x)))] := hl
  have hL : Lk G [] := Lk.nil
  generalize ([] : List Loc) = locs at hL ⊢
  refine lv_iload_n E.1 E.2.1 dX1_sessionAt_0 rfl (lv_at hl 1 rfl) ?_
  refine r_if_lt (tgt := 27) E dX1_sessionAt_1 (by decide) (by omega) (fun c1 => ?_) (fun c1 => ?_)
  · refine lv_null E.1 E.2.1 dX1_sessionAt_27 ?_
    refine e_aret (rm := ({ frames := 0, cells := 0, slots := 0, locals := 0 } : Room)) (r := none) E hL dX1_sessionAt_28 ?_
    exact ⟨by rw [if_neg (by omega)], rfl⟩
  · refine lv_iload_n E.1 E.2.1 dX1_sessionAt_4 rfl (lv_at hl 1 rfl) ?_
    refine lv_aload_n E.1 E.2.1 dX1_sessionAt_5 rfl (lv_at hl 0 rfl) ?_
    refine m_get E hP.1 fw_X1_29 rfl dX1_sessionAt_6 ?_
    refine r_icmp_ge (tgt := 27) E dX1_sessionAt_9 (by decide) (by omega) (by omega) (fun c9 => ?_) (fun c9 => ?_)
    · refine lv_null E.1 E.2.1 dX1_sessionAt_27 ?_
      refine e_aret (rm := ({ frames := 0, cells := 0, slots := 0, locals := 0 } : Room)) (r := none) E hL dX1_sessionAt_28 ?_
      exact ⟨by rw [if_neg (by omega)], rfl⟩
    · refine lv_iload_n E.1 E.2.1 dX1_sessionAt_12 rfl (lv_at hl 1 rfl) ?_
      refine r_bipush E dX1_sessionAt_13 (by decide) ?_
      refine r_icmp_ge (tgt := 27) E dX1_sessionAt_15 (by decide) (by omega) (by omega) (fun c15 => absurd c15 (by omega)) (fun c15 => ?_)
      refine lv_aload_n E.1 E.2.1 dX1_sessionAt_18 rfl (lv_at hl 0 rfl) ?_
      refine m_get E hP.1 fw_X1_11 rfl dX1_sessionAt_19 ?_
      refine lv_iload_n E.1 E.2.1 dX1_sessionAt_22 rfl (lv_at hl 1 rfl) ?_
      refine r_aald E hP.2.1 rfl ((x).toNat) (by omega) (by omega) (by decide) dX1_sessionAt_23 ?_
      refine lv_goto (tgt := 28) E.1 E.2.1 dX1_sessionAt_24 (by decide) ?_
      refine e_aret (rm := ({ frames := 0, cells := 0, slots := 0, locals := 0 } : Room)) (r := some (b + 5 + 2 * ((x).toNat))) E hL dX1_sessionAt_28 ?_
      exact ⟨by rw [if_pos (by omega)], rfl⟩

theorem c_sessionAt_s (G : GG) (l : Launch) (b : Nat) (fl : Nat → Option Fil) (σ : St) (hI : Inv σ) (n : Nat) (hn : n < mn σ) : Ct G l yX1_sessionAt cX1_sessionAt 2 (some (.object "WriteOnceDisc$Session")) ({ frames := 0, cells := 0, slots := 0, locals := 0 } : Room) [.ref b, .int (iI n)] (fun H => DiscAt G b fl σ H) (QE (some (b + 5 + 2 * n))) := by
  have h := c_X1_sessionAt G l b fl σ hI n (by unfold okI; have := hI.mn12; omega)
  rw [if_pos (by omega), Int.toNat_natCast] at h
  exact h
theorem c_sessionAt_n (G : GG) (l : Launch) (b : Nat) (fl : Nat → Option Fil) (σ : St) (hI : Inv σ) (x : Int) (hx : okI x) (h : x < 0 ∨ mn σ ≤ x) : Ct G l yX1_sessionAt cX1_sessionAt 2 (some (.object "WriteOnceDisc$Session")) ({ frames := 0, cells := 0, slots := 0, locals := 0 } : Room) [.ref b, .int (iI x)] (fun H => DiscAt G b fl σ H) (QE none) := by
  have h := c_X1_sessionAt G l b fl σ hI x hx
  rw [if_neg (by omega)] at h
  exact h

theorem c_fileOf_in (G : GG) (l : Launch) (a n : Nat) (w : Nat → Int32) (t : Nat → Option Nat) (hn : n < 20) : Ct G l yX3_fileOf cX3_fileOf 2 (some (.object "WriteOnceDisc$StoredFile")) ({ frames := 1, cells := 0, slots := 0, locals := 20 } : Room) [.ref a, .int (iI n)] (fun H => SesR G a w t H) (QE (t n)) := by
  have h := c_X3_fileOf G l a n w t (by unfold okI; omega)
  rw [if_pos (by omega), Int.toNat_natCast] at h
  exact h

set_option maxHeartbeats 4000000 in
set_option maxRecDepth 100000 in
theorem c_X1_openSession (G : GG) (l : Launch) (b : Nat) (fl : Nat → Option Fil) (σ : St) (hI : Inv σ) : Ct G l yX1_openSession cX1_openSession 2 (some (.object "WriteOnceDisc$Session")) ({ frames := 1, cells := 0, slots := 0, locals := 21 } : Room) [.ref (b)] (fun H => DiscAt G b fl σ H) (QE ((opn σ).map (fun n => b + 5 + 2 * n))) := by
  refine Ct.of (by decide +kernel) (Nat.le_of_ble_eq_true rfl) ?_
  intro p e s m args below meth c ls E hnm hP hl
  have i1 := hI.mn12
  have i2 := hI.nx240
  have hl : lv_has ls 2 [(0, .ref (b))] := hl
  have hL : Lk G [] := Lk.nil
  generalize ([] : List Loc) = locs at hL ⊢
  refine lv_aload_n E.1 E.2.1 dX1_openSession_0 rfl (lv_at hl 0 rfl) ?_
  refine lv_aload_n E.1 E.2.1 dX1_openSession_1 rfl (lv_at hl 0 rfl) ?_
  refine m_get E hP.1 fw_X1_29 rfl dX1_openSession_2 ?_
  refine r_const E dX1_openSession_5 ?_
  refine r_sub E dX1_openSession_6 ?_
  rcases Nat.eq_zero_or_pos (mn σ) with h0 | h0
  · refine kVQE (As := [.int (iI ((mn σ : Int) - 1))]) E cw_X1_51 (c_sessionAt_n G l b fl σ hI ((mn σ : Int) - 1) (by unfold okI; omega) (by omega)) hP.1 ⟨_, _, rfl⟩ hP hL hl.1 rfl rfl (Nat.le_of_ble_eq_true rfl) ⟨Nat.le_of_ble_eq_true rfl, Nat.le_of_ble_eq_true rfl⟩ ⟨rfl, rfl⟩ ⟨Nat.le_of_ble_eq_true rfl, Nat.le_of_ble_eq_true rfl⟩ dX1_openSession_7 (fun locs hL => ?_)
    refine lv_astore_nN (lv' := [(1, .null), (0, .ref (b))]) E.1 E.2.1 dX1_openSession_10 rfl hl (by decide) rfl (fun ls hl => ?_)
    refine lv_aload_nN E.1 E.2.1 dX1_openSession_11 rfl (lv_at hl 0 rfl) ?_
    refine lv_ifnullN (tgt := 26) E.1 E.2.1 dX1_openSession_12 (by decide) ?_
    refine lv_null E.1 E.2.1 dX1_openSession_26 ?_
    refine e_aret (rm := ({ frames := 1, cells := 0, slots := 0, locals := 21 } : Room)) (r := none) E hL dX1_openSession_27 ?_
    exact ⟨by first | (rw [opn_0 h0]; rfl) | (rw [opn_no hn (by omega)]; rfl), rfl⟩
  · obtain ⟨n, hn⟩ : ∃ n, n + 1 = mn σ := ⟨mn σ - 1, by omega⟩
    rw [show (((mn σ : Int) - 1 : Int)) = (n : Int) by omega]
    obtain ⟨t_, ho_, hr_, ht_⟩ := hP.live (n := n) (by omega) (by omega)
    refine kVQE (As := [.int (iI ((n : Int)))]) E cw_X1_51 (c_sessionAt_s G l b fl σ hI n (by omega)) hP.1 ⟨_, _, rfl⟩ hP hL hl.1 rfl rfl (Nat.le_of_ble_eq_true rfl) ⟨Nat.le_of_ble_eq_true rfl, Nat.le_of_ble_eq_true rfl⟩ ⟨rfl, rfl⟩ ⟨Nat.le_of_ble_eq_true rfl, Nat.le_of_ble_eq_true rfl⟩ dX1_openSession_7 (fun locs hL => ?_)
    refine lv_astore_n (lv' := [(1, .ref (b + 5 + 2 * n)), (0, .ref (b))]) E.1 E.2.1 dX1_openSession_10 rfl hl (by decide) rfl (fun ls hl => ?_)
    refine lv_aload_n E.1 E.2.1 dX1_openSession_11 rfl (lv_at hl 0 rfl) ?_
    refine lv_ifnull E.1 E.2.1 dX1_openSession_12 ?_
    refine lv_aload_n E.1 E.2.1 dX1_openSession_15 rfl (lv_at hl 0 rfl) ?_
    refine m_get E ho_ fw_X1_105 rfl dX1_openSession_16 ?_
    refine r_if_ne (tgt := 26) E dX1_openSession_19 (by decide) (by have := hI.row (n := n) (by omega); omega) (fun c19 => ?_) (fun c19 => ?_)
    · refine lv_null E.1 E.2.1 dX1_openSession_26 ?_
      refine e_aret (rm := ({ frames := 1, cells := 0, slots := 0, locals := 21 } : Room)) (r := none) E hL dX1_openSession_27 ?_
      exact ⟨by first | (rw [opn_0 h0]; rfl) | (rw [opn_no hn (by omega)]; rfl), rfl⟩
    · refine lv_aload_n E.1 E.2.1 dX1_openSession_22 rfl (lv_at hl 0 rfl) ?_
      refine lv_goto (tgt := 27) E.1 E.2.1 dX1_openSession_23 (by decide) ?_
      refine e_aret (rm := ({ frames := 1, cells := 0, slots := 0, locals := 21 } : Room)) (r := some (b + 5 + 2 * n)) E hL dX1_openSession_27 ?_
      exact ⟨by rw [opn_of hn (by omega)]; rfl, rfl⟩

set_option maxHeartbeats 4000000 in
set_option maxRecDepth 100000 in
theorem c_X1_areWholeIf (G : GG) (l : Launch) (b : Nat) (fl : Nat → Option Fil) (σ : St) (x cn : Nat) (h : Int) (hh : okI h) (hx : x + cn ≤ 240) : Ct G l yX1_areWholeIf cX1_areWholeIf 6 (some .boolean) ({ frames := 1, cells := 0, slots := 0, locals := 24 } : Room) [.ref (b), .int (iI ((x : Int))), .int (iI ((cn : Int))), .int (iI (h))] (fun H => DiscAt G b fl σ H) (RE (b2i (wholeB (dmH σ h) x cn))) := by
  refine Ct.of (by decide +kernel) (Nat.le_of_ble_eq_true rfl) ?_
  intro p e s m args below meth c ls E hnm hP hl
  obtain ⟨hh1, hh2⟩ := hh
  have hl : lv_has ls 6 [(0, .ref (b)), (1, .int (iI ((x : Int)))), (2, .int (iI ((cn : Int)))), (3, .int (iI (h)))] := hl
  have hL : Lk G [] := Lk.nil
  generalize ([] : List Loc) = locs at hL ⊢
  refine lv_iload_n E.1 E.2.1 dX1_areWholeIf_0 rfl (lv_at hl 1 rfl) ?_
  refine lv_iload_n E.1 E.2.1 dX1_areWholeIf_1 rfl (lv_at hl 2 rfl) ?_
  refine r_add E dX1_areWholeIf_2 ?_
  refine r_sipush E dX1_areWholeIf_3 (by decide) ?_
  refine r_min E ml_X1_125 hl.1 (Nat.le_of_ble_eq_true rfl) (Nat.le_of_ble_eq_true rfl) (Nat.le_of_ble_eq_true rfl) (Nat.le_of_ble_eq_true rfl) (by omega) (by omega) dX1_areWholeIf_6 (fun z1 hz1 => ?_)
  refine lv_istore (lv' := [(4, .int (iI (z1))), (0, .ref (b)), (1, .int (iI ((x : Int)))), (2, .int (iI ((cn : Int)))), (3, .int (iI (h)))]) E.1 E.2.1 dX1_areWholeIf_9 hl (by decide) rfl (fun ls hl => ?_)
  refine lv_iload_n E.1 E.2.1 dX1_areWholeIf_11 rfl (lv_at hl 2 rfl) ?_
  refine r_const E dX1_areWholeIf_12 ?_
  refine r_max E ml_X1_131 hl.1 (Nat.le_of_ble_eq_true rfl) (Nat.le_of_ble_eq_true rfl) (Nat.le_of_ble_eq_true rfl) (Nat.le_of_ble_eq_true rfl) (by omega) (by omega) dX1_areWholeIf_13 (fun z2 hz2 => ?_)
  refine lv_istore (lv' := [(5, .int (iI (z2))), (4, .int (iI (z1))), (0, .ref (b)), (1, .int (iI ((x : Int)))), (2, .int (iI ((cn : Int)))), (3, .int (iI (h)))]) E.1 E.2.1 dX1_areWholeIf_16 hl (by decide) rfl (fun ls hl => ?_)
  have LP18 : ∀ (kin18 : Nat) (y : Nat) (u : Int) (ls : Array Slot) (locs : List Loc) (hy : x ≤ y ∧ y ≤ x + cn) (hw : ∀ k, x ≤ k → k < y → dmH σ h k = false) (hu : u = (y : Int)) (hkin18 : x + cn - y = kin18) (hl : lv_has ls 6 [(5, .int (iI (u))), (4, .int (iI (z1))), (0, .ref (b)), (1, .int (iI ((x : Int)))), (2, .int (iI ((cn : Int)))), (3, .int (iI (h)))]) (hL : Lk G locs), W p l e ({ frames := 1, cells := 0, slots := 0, locals := 24 } : Room) s m args below meth c s.heap locs 0 0 (QQ G below args s ({ frames := 1, cells := 0, slots := 0, locals := 24 } : Room) (RE (b2i (wholeB (dmH σ h) x cn)))) (F0 m 18 ls []) := by
    intro kin18
    induction kin18 using Nat.strongRecOn with
    | ind kin18 ihin18 =>
      intro y u ls locs hy hw hu hkin18 hl hL
      refine lv_iload E.1 E.2.1 dX1_areWholeIf_18 (lv_at hl 0 rfl) ?_
      refine lv_iload E.1 E.2.1 dX1_areWholeIf_20 (lv_at hl 1 rfl) ?_
      refine r_icmp_ge (tgt := 49) E dX1_areWholeIf_22 (by decide) (by omega) (by omega) (fun c22 => ?_) (fun c22 => ?_)
      · refine r_const E dX1_areWholeIf_49 ?_
        refine e_zret (rm := ({ frames := 1, cells := 0, slots := 0, locals := 24 } : Room)) (v := iI (1)) E hL rfl dX1_areWholeIf_50 ?_
        exact RE_t (wholeB_iff.mpr (fun k h1 h2 => hw k h1 (by omega)))
      · refine lv_iload E.1 E.2.1 dX1_areWholeIf_25 (lv_at hl 0 rfl) ?_
        refine lv_iload_n E.1 E.2.1 dX1_areWholeIf_27 rfl (lv_at hl 5 rfl) ?_
        refine r_icmp_eq (tgt := 41) E dX1_areWholeIf_28 (by decide) (by omega) (by omega) (fun c28 => ?_) (fun c28 => ?_)
        · refine r_const E dX1_areWholeIf_41 ?_
          refine e_zret (rm := ({ frames := 1, cells := 0, slots := 0, locals := 24 } : Room)) (v := iI (0)) E hL rfl dX1_areWholeIf_42 ?_
          first | exact RE_f (wholeB_f (k := y) (by omega) (by omega) (dmH_h (by omega))) | exact RE_f (wholeB_f (k := y) (by omega) (by omega) (dmH_d c38))
        · refine lv_aload_n E.1 E.2.1 dX1_areWholeIf_31 rfl (lv_at hl 2 rfl) ?_
          refine m_get E hP.1 fw_X1_17 rfl dX1_areWholeIf_32 ?_
          refine lv_iload E.1 E.2.1 dX1_areWholeIf_35 (lv_at hl 0 rfl) ?_
          refine r_zald E hP.2.2.1 (y) hu (by omega) (by decide) dX1_areWholeIf_37 ?_
          refine r_bif_eq (tgt := 43) E dX1_areWholeIf_38 (by decide)  (fun c38 => ?_) (fun c38 => ?_)
          · refine r_inc (lv' := [(5, .int (iI (u + 1))), (4, .int (iI (z1))), (0, .ref (b)), (1, .int (iI ((x : Int)))), (2, .int (iI ((cn : Int)))), (3, .int (iI (h)))]) E dX1_areWholeIf_43 hl (k := 0) rfl (by decide) rfl (fun ls hl => ?_)
            refine lv_goto (tgt := 18) E.1 E.2.1 dX1_areWholeIf_46 (by decide) ?_
            refine ihin18 _ ?_ (y + 1) (u + 1) ls locs ?_ ?_ ?_ rfl (lv_sub hl [0, 1, 2, 3, 4, 5] rfl) hL
            · omega
            · omega
            · intro k h1 h2
              by_cases he : k = y
              · subst he; exact dmH_n c38 (by omega)
              · exact hw k h1 (by omega)
            · omega
          · refine r_const E dX1_areWholeIf_41 ?_
            refine e_zret (rm := ({ frames := 1, cells := 0, slots := 0, locals := 24 } : Room)) (v := iI (0)) E hL rfl dX1_areWholeIf_42 ?_
            first | exact RE_f (wholeB_f (k := y) (by omega) (by omega) (dmH_h (by omega))) | exact RE_f (wholeB_f (k := y) (by omega) (by omega) (dmH_d c38))
  refine LP18 _ x z2 ls locs ?_ ?_ ?_ rfl (lv_sub hl [0, 1, 2, 3, 4, 5] rfl) hL
  · omega
  · exact fun k h1 h2 => absurd h1 (by omega)
  · omega

set_option maxHeartbeats 4000000 in
set_option maxRecDepth 100000 in
theorem c_X1_isReadableIf (G : GG) (l : Launch) (b : Nat) (fl : Nat → Option Fil) (σ : St) (hI : Inv σ) (n : Nat) (h : Int) (hh : okI h) (hn : n < mn σ) : Ct G l yX1_isReadableIf cX1_isReadableIf 3 (some .boolean) ({ frames := 2, cells := 0, slots := 0, locals := 49 } : Room) [.ref (b), .ref (b + 5 + 2 * n), .int (iI (h))] (fun H => DiscAt G b fl σ H) (RE (b2i (readB σ (dmH σ h) n))) := by
  refine Ct.of (by decide +kernel) (Nat.le_of_ble_eq_true rfl) ?_
  intro p e s m args below meth c ls E hnm hP hl
  have i1 := hI.mn12
  have i2 := hI.nx240
  obtain ⟨hh1, hh2⟩ := hh
  have hrow := hI.row hn
  obtain ⟨t_, ho_, hr_, ht_⟩ := hP.live (n := n) (by omega) (by omega)
  have hl : lv_has ls 3 [(0, .ref (b)), (1, .ref (b + 5 + 2 * n)), (2, .int (iI (h)))] := hl
  have hL : Lk G [] := Lk.nil
  generalize ([] : List Loc) = locs at hL ⊢
  refine lv_aload_n E.1 E.2.1 dX1_isReadableIf_0 rfl (lv_at hl 1 rfl) ?_
  refine m_get E ho_ fw_X1_105 rfl dX1_isReadableIf_1 ?_
  refine r_const E dX1_isReadableIf_4 ?_
  refine r_icmp_ne (tgt := 28) E dX1_isReadableIf_5 (by decide) (by omega) (by omega) (fun c5 => ?_) (fun c5 => ?_)
  · refine r_const E dX1_isReadableIf_28 ?_
    refine e_zret (rm := ({ frames := 2, cells := 0, slots := 0, locals := 49 } : Room)) (v := iI (0)) E hL rfl dX1_isReadableIf_29 ?_
    first | exact RE_f (by unfold readB; rw [decide_eq_false (by omega)]; rfl) | exact RE_f (by unfold readB; rw [c21, Bool.and_false])
  · refine lv_aload_n E.1 E.2.1 dX1_isReadableIf_8 rfl (lv_at hl 0 rfl) ?_
    refine lv_aload_n E.1 E.2.1 dX1_isReadableIf_9 rfl (lv_at hl 1 rfl) ?_
    refine m_get E ho_ fw_X1_108 rfl dX1_isReadableIf_10 ?_
    refine lv_aload_n E.1 E.2.1 dX1_isReadableIf_13 rfl (lv_at hl 1 rfl) ?_
    refine m_get E ho_ fw_X1_109 rfl dX1_isReadableIf_14 ?_
    refine lv_iload_n E.1 E.2.1 dX1_isReadableIf_17 rfl (lv_at hl 2 rfl) ?_
    refine kVRE (As := [.int (iI ((se σ n 1 : Int))), .int (iI ((se σ n 3 : Int))), .int (iI (h))]) E cw_X1_112 (c_X1_areWholeIf G l b fl σ (se σ n 1) (se σ n 3) (h) (by unfold okI; omega) (by omega)) hP.1 ⟨_, _, rfl⟩ hP hL hl.1 rfl rfl (Nat.le_of_ble_eq_true rfl) ⟨Nat.le_of_ble_eq_true rfl, Nat.le_of_ble_eq_true rfl⟩ ⟨rfl, rfl⟩ ⟨Nat.le_of_ble_eq_true rfl, Nat.le_of_ble_eq_true rfl⟩ dX1_isReadableIf_18 (fun locs hL => ?_)
    refine r_bif_eq (tgt := 28) E dX1_isReadableIf_21 (by decide)  (fun c21 => ?_) (fun c21 => ?_)
    · refine r_const E dX1_isReadableIf_28 ?_
      refine e_zret (rm := ({ frames := 2, cells := 0, slots := 0, locals := 49 } : Room)) (v := iI (0)) E hL rfl dX1_isReadableIf_29 ?_
      first | exact RE_f (by unfold readB; rw [decide_eq_false (by omega)]; rfl) | exact RE_f (by unfold readB; rw [c21, Bool.and_false])
    · refine r_const E dX1_isReadableIf_24 ?_
      refine lv_goto (tgt := 29) E.1 E.2.1 dX1_isReadableIf_25 (by decide) ?_
      refine e_zret (rm := ({ frames := 2, cells := 0, slots := 0, locals := 49 } : Room)) (v := iI (1)) E hL rfl dX1_isReadableIf_29 ?_
      exact RE_t (by unfold readB; rw [decide_eq_true (by omega), c21]; rfl)

set_option maxHeartbeats 4000000 in
set_option maxRecDepth 100000 in
theorem c_X1_validNumberIf (G : GG) (l : Launch) (b : Nat) (fl : Nat → Option Fil) (σ : St) (hI : Inv σ) (h : Int) (hh : okI h) : Ct G l yX1_validNumberIf cX1_validNumberIf 4 (some .int) ({ frames := 3, cells := 0, slots := 0, locals := 71 } : Room) [.ref (b), .int (iI (h))] (fun H => DiscAt G b fl σ H) (RE (iI (oI (validD σ (dmH σ h))))) := by
  refine Ct.of (by decide +kernel) (Nat.le_of_ble_eq_true rfl) ?_
  intro p e s m args below meth c ls E hnm hP hl
  have i1 := hI.mn12
  have i2 := hI.nx240
  obtain ⟨hh1, hh2⟩ := hh
  have hl : lv_has ls 4 [(0, .ref (b)), (1, .int (iI (h)))] := hl
  have hL : Lk G [] := Lk.nil
  generalize ([] : List Loc) = locs at hL ⊢
  refine lv_aload_n E.1 E.2.1 dX1_validNumberIf_0 rfl (lv_at hl 0 rfl) ?_
  refine m_get E hP.1 fw_X1_29 rfl dX1_validNumberIf_1 ?_
  refine r_const E dX1_validNumberIf_4 ?_
  refine r_sub E dX1_validNumberIf_5 ?_
  refine lv_istore_n (lv' := [(2, .int (iI ((mn σ : Int) - 1))), (0, .ref (b)), (1, .int (iI (h)))]) E.1 E.2.1 dX1_validNumberIf_6 rfl hl (by decide) rfl (fun ls hl => ?_)
  have LP7 : ∀ (kin7 : Nat) (j : Nat) (z : Int) (ls : Array Slot) (locs : List Loc) (hj : j ≤ mn σ) (hz : z = (j : Int) - 1) (he : validD σ (dmH σ h) = lastB (readB σ (dmH σ h)) j) (hkin7 : j = kin7) (hl : lv_has ls 4 [(2, .int (iI (z))), (0, .ref (b)), (1, .int (iI (h)))]) (hL : Lk G locs), W p l e ({ frames := 3, cells := 0, slots := 0, locals := 71 } : Room) s m args below meth c s.heap locs 0 0 (QQ G below args s ({ frames := 3, cells := 0, slots := 0, locals := 71 } : Room) (RE (iI (oI (validD σ (dmH σ h)))))) (F0 m 7 ls []) := by
    intro kin7
    induction kin7 using Nat.strongRecOn with
    | ind kin7 ihin7 =>
      intro j z ls locs hj hz he hkin7 hl hL
      refine lv_iload_n E.1 E.2.1 dX1_validNumberIf_7 rfl (lv_at hl 0 rfl) ?_
      refine r_if_lt (tgt := 38) E dX1_validNumberIf_8 (by decide) (by omega) (fun c8 => ?_) (fun c8 => ?_)
      · refine r_bipush E dX1_validNumberIf_38 (by decide) ?_
        refine e_iret (rm := ({ frames := 3, cells := 0, slots := 0, locals := 71 } : Room)) (v := iI ((-6))) E hL dX1_validNumberIf_40 ?_
        exact RE_i (by rw [he, show j = 0 by omega]; rfl)
      · obtain ⟨n, hn⟩ : ∃ n : Nat, z = (n : Int) := ⟨z.toNat, by omega⟩
        subst hn
        refine lv_aload_n E.1 E.2.1 dX1_validNumberIf_11 rfl (lv_at hl 1 rfl) ?_
        refine lv_iload_n E.1 E.2.1 dX1_validNumberIf_12 rfl (lv_at hl 0 rfl) ?_
        refine kVQE (As := [.int (iI ((n : Int)))]) E cw_X1_51 (c_sessionAt_s G l b fl σ hI n (by omega)) hP.1 ⟨_, _, rfl⟩ hP hL hl.1 rfl rfl (Nat.le_of_ble_eq_true rfl) ⟨Nat.le_of_ble_eq_true rfl, Nat.le_of_ble_eq_true rfl⟩ ⟨rfl, rfl⟩ ⟨Nat.le_of_ble_eq_true rfl, Nat.le_of_ble_eq_true rfl⟩ dX1_validNumberIf_13 (fun locs hL => ?_)
        refine lv_astore_n (lv' := [(3, .ref (b + 5 + 2 * n)), (2, .int (iI ((n : Int)))), (0, .ref (b)), (1, .int (iI (h)))]) E.1 E.2.1 dX1_validNumberIf_16 rfl hl (by decide) rfl (fun ls hl => ?_)
        refine lv_aload_n E.1 E.2.1 dX1_validNumberIf_17 rfl (lv_at hl 0 rfl) ?_
        refine lv_ifnull E.1 E.2.1 dX1_validNumberIf_18 ?_
        refine lv_aload_n E.1 E.2.1 dX1_validNumberIf_21 rfl (lv_at hl 2 rfl) ?_
        refine lv_aload_n E.1 E.2.1 dX1_validNumberIf_22 rfl (lv_at hl 0 rfl) ?_
        refine lv_iload_n E.1 E.2.1 dX1_validNumberIf_23 rfl (lv_at hl 3 rfl) ?_
        refine kVRE (As := [.ref (b + 5 + 2 * n), .int (iI (h))]) E cw_X1_97 (c_X1_isReadableIf G l b fl σ hI (n) (h) (by unfold okI; omega) (by omega)) hP.1 ⟨_, _, rfl⟩ hP hL hl.1 rfl rfl (Nat.le_of_ble_eq_true rfl) ⟨Nat.le_of_ble_eq_true rfl, Nat.le_of_ble_eq_true rfl⟩ ⟨rfl, rfl⟩ ⟨Nat.le_of_ble_eq_true rfl, Nat.le_of_ble_eq_true rfl⟩ dX1_validNumberIf_24 (fun locs hL => ?_)
        refine r_bif_eq (tgt := 32) E dX1_validNumberIf_27 (by decide)  (fun c27 => ?_) (fun c27 => ?_)
        · refine r_inc (lv' := [(2, .int (iI ((n : Int) + (-1)))), (3, .ref (b + 5 + 2 * n)), (0, .ref (b)), (1, .int (iI (h)))]) E dX1_validNumberIf_32 hl (k := 1) rfl (by decide) rfl (fun ls hl => ?_)
          refine lv_goto (tgt := 7) E.1 E.2.1 dX1_validNumberIf_35 (by decide) ?_
          refine ihin7 _ ?_ n ((n : Int) + (-1)) ls locs ?_ ?_ ?_ rfl (lv_sub hl [0, 2, 3] rfl) hL
          · omega
          · omega
          · omega
          · rw [he, show j = n + 1 by omega, lastB, if_neg (by rw [c27]; decide)]
        · refine lv_iload_n E.1 E.2.1 dX1_validNumberIf_30 rfl (lv_at hl 1 rfl) ?_
          refine e_iret (rm := ({ frames := 3, cells := 0, slots := 0, locals := 71 } : Room)) (v := iI ((n : Int))) E hL dX1_validNumberIf_31 ?_
          exact RE_i (by rw [he, show j = n + 1 by omega, lastB, if_pos c27]; rfl)
  refine LP7 _ (mn σ) ((mn σ : Int) - 1) ls locs ?_ ?_ ?_ rfl (lv_sub hl [0, 1, 2] rfl) hL
  · omega
  · rfl
  · rfl

set_option maxHeartbeats 4000000 in
set_option maxRecDepth 100000 in
theorem c_X1_isIntactIf (G : GG) (l : Launch) (b fb : Nat) (fl : Nat → Option Fil) (σ : St) (a : Nat) (f : Fil) (h : Int) (hh : okI h) (hf : fl a = some f) (hx : f.1 + f.2.1 ≤ 240) : Ct G l yX1_isIntactIf cX1_isIntactIf 3 (some .boolean) ({ frames := 2, cells := 0, slots := 0, locals := 49 } : Room) [.ref (b), .ref (a), .int (iI (h))] (fun H => DiscAt G b fl σ H ∧ FlAt G fb fl H) (RE (b2i (wholeB (dmH σ h) f.1 f.2.1))) := by
  refine Ct.of (by decide +kernel) (Nat.le_of_ble_eq_true rfl) ?_
  intro p e s m args below meth c ls E hnm hP hl
  obtain ⟨hP, hFl⟩ := hP
  obtain ⟨hh1, hh2⟩ := hh
  have hl : lv_has ls 3 [(0, .ref (b)), (1, .ref (a)), (2, .int (iI (h)))] := hl
  have hL : Lk G [] := Lk.nil
  generalize ([] : List Loc) = locs at hL ⊢
  refine lv_aload_n E.1 E.2.1 dX1_isIntactIf_0 rfl (lv_at hl 0 rfl) ?_
  refine lv_aload_n E.1 E.2.1 dX1_isIntactIf_1 rfl (lv_at hl 1 rfl) ?_
  refine m_get E (hFl.2 a f hf).2 fw_X1_87 rfl dX1_isIntactIf_2 ?_
  refine lv_aload_n E.1 E.2.1 dX1_isIntactIf_5 rfl (lv_at hl 1 rfl) ?_
  refine m_get E (hFl.2 a f hf).2 fw_X1_140 rfl dX1_isIntactIf_6 ?_
  refine lv_iload_n E.1 E.2.1 dX1_isIntactIf_9 rfl (lv_at hl 2 rfl) ?_
  refine kVRE (As := [.int (iI ((f.1 : Int))), .int (iI ((f.2.1 : Int))), .int (iI (h))]) E cw_X1_112 (c_X1_areWholeIf G l b fl σ (f.1) (f.2.1) (h) (by unfold okI; omega) (by omega)) hP.1 ⟨_, _, rfl⟩ hP hL hl.1 rfl rfl (Nat.le_of_ble_eq_true rfl) ⟨Nat.le_of_ble_eq_true rfl, Nat.le_of_ble_eq_true rfl⟩ ⟨rfl, rfl⟩ ⟨Nat.le_of_ble_eq_true rfl, Nat.le_of_ble_eq_true rfl⟩ dX1_isIntactIf_10 (fun locs hL => ?_)
  refine e_zret (rm := ({ frames := 2, cells := 0, slots := 0, locals := 49 } : Room)) (v := b2i (wholeB (dmH σ (h)) (f.1) (f.2.1))) E hL (b2i_nar _) dX1_isIntactIf_13 ?_
  exact RE_b rfl

set_option maxHeartbeats 4000000 in
set_option maxRecDepth 100000 in
theorem c_X1_useOf (G : GG) (l : Launch) (b : Nat) (fl : Nat → Option Fil) (σ : St) (hI : Inv σ) (x : Int) (hx : 0 ≤ x ∧ x < 240) : Ct G l yX1_useOf cX1_useOf 4 (some .int) ({ frames := 1, cells := 0, slots := 0, locals := 21 } : Room) [.ref (b), .int (iI (x))] (fun H => DiscAt G b fl σ H) (RE (iI (useN σ x.toNat))) := by
  refine Ct.of (by decide +kernel) (Nat.le_of_ble_eq_true rfl) ?_
  intro p e s m args below meth c ls E hnm hP hl
  have i1 := hI.mn12
  have i2 := hI.nx240
  obtain ⟨hx1, hx2⟩ := hx
  have hl : lv_has ls 4 [(0, .ref (b)), (1, .int (iI (x)))] := hl
  have hL : Lk G [] := Lk.nil
  generalize ([] : List Loc) = locs at hL ⊢
  refine r_const E dX1_useOf_0 ?_
  refine lv_istore_n (lv' := [(2, .int (iI (0))), (0, .ref (b)), (1, .int (iI (x)))]) E.1 E.2.1 dX1_useOf_1 rfl hl (by decide) rfl (fun ls hl => ?_)
  have LP2 : ∀ (kin2 : Nat) (j : Nat) (z : Int) (ls : Array Slot) (locs : List Loc) (hj : j ≤ mn σ) (hz : z = (j : Int)) (he : ∀ k, k < j → ¬ (se σ k 1 ≤ x.toNat ∧ x.toNat < se σ k 1 + se σ k 2)) (hkin2 : mn σ - j = kin2) (hl : lv_has ls 4 [(2, .int (iI (z))), (0, .ref (b)), (1, .int (iI (x)))]) (hL : Lk G locs), W p l e ({ frames := 1, cells := 0, slots := 0, locals := 21 } : Room) s m args below meth c s.heap locs 0 0 (QQ G below args s ({ frames := 1, cells := 0, slots := 0, locals := 21 } : Room) (RE (iI (useN σ x.toNat)))) (F0 m 2 ls []) := by
    intro kin2
    induction kin2 using Nat.strongRecOn with
    | ind kin2 ihin2 =>
      intro j z ls locs hj hz he hkin2 hl hL
      refine lv_iload_n E.1 E.2.1 dX1_useOf_2 rfl (lv_at hl 0 rfl) ?_
      refine lv_aload_n E.1 E.2.1 dX1_useOf_3 rfl (lv_at hl 1 rfl) ?_
      refine m_get E hP.1 fw_X1_29 rfl dX1_useOf_4 ?_
      refine r_icmp_ge (tgt := 40) E dX1_useOf_7 (by decide) (by omega) (by omega) (fun c7 => ?_) (fun c7 => ?_)
      · refine r_const E dX1_useOf_40 ?_
        refine e_iret (rm := ({ frames := 1, cells := 0, slots := 0, locals := 21 } : Room)) (v := iI (0)) E hL dX1_useOf_41 ?_
        exact RE_i (by unfold useN; rw [sesAt_no (fun n hn => he n (by omega))])
      · subst hz
        obtain ⟨t_, ho_, hr_, ht_⟩ := hP.live (n := j) (by omega) (by omega)
        refine lv_aload_n E.1 E.2.1 dX1_useOf_10 rfl (lv_at hl 1 rfl) ?_
        refine lv_iload_n E.1 E.2.1 dX1_useOf_11 rfl (lv_at hl 0 rfl) ?_
        refine kVQE (As := [.int (iI ((j : Int)))]) E cw_X1_51 (c_sessionAt_s G l b fl σ hI j (by omega)) hP.1 ⟨_, _, rfl⟩ hP hL hl.1 rfl rfl (Nat.le_of_ble_eq_true rfl) ⟨Nat.le_of_ble_eq_true rfl, Nat.le_of_ble_eq_true rfl⟩ ⟨rfl, rfl⟩ ⟨Nat.le_of_ble_eq_true rfl, Nat.le_of_ble_eq_true rfl⟩ dX1_useOf_12 (fun locs hL => ?_)
        refine lv_astore_n (lv' := [(3, .ref (b + 5 + 2 * j)), (2, .int (iI ((j : Int)))), (0, .ref (b)), (1, .int (iI (x)))]) E.1 E.2.1 dX1_useOf_15 rfl hl (by decide) rfl (fun ls hl => ?_)
        refine lv_aload_n E.1 E.2.1 dX1_useOf_16 rfl (lv_at hl 0 rfl) ?_
        refine lv_ifnull E.1 E.2.1 dX1_useOf_17 ?_
        refine lv_aload_n E.1 E.2.1 dX1_useOf_20 rfl (lv_at hl 0 rfl) ?_
        refine lv_iload_n E.1 E.2.1 dX1_useOf_21 rfl (lv_at hl 3 rfl) ?_
        refine kVRE (As := [.int (iI (x))]) E cw_X1_134 (c_X3_hasTaken G l (b + 5 + 2 * j) (x) (se σ j) (hI.rowb (by omega)) (by omega)) ho_ ⟨_, _, rfl⟩ ho_ hL hl.1 rfl rfl (Nat.le_of_ble_eq_true rfl) ⟨Nat.le_of_ble_eq_true rfl, Nat.le_of_ble_eq_true rfl⟩ ⟨rfl, rfl⟩ ⟨Nat.le_of_ble_eq_true rfl, Nat.le_of_ble_eq_true rfl⟩ dX1_useOf_22 (fun locs hL => ?_)
        refine r_bif_eq (tgt := 34) E dX1_useOf_25 (by decide)  (fun c25 => ?_) (fun c25 => ?_)
        · have c25 := of_decide_eq_false c25
          refine r_inc (lv' := [(2, .int (iI ((j : Int) + 1))), (3, .ref (b + 5 + 2 * j)), (0, .ref (b)), (1, .int (iI (x)))]) E dX1_useOf_34 hl (k := 1) rfl (by decide) rfl (fun ls hl => ?_)
          refine lv_goto (tgt := 2) E.1 E.2.1 dX1_useOf_37 (by decide) ?_
          refine ihin2 _ ?_ (j + 1) ((j : Int) + 1) ls locs ?_ ?_ ?_ rfl (lv_sub hl [0, 2, 3] rfl) hL
          · omega
          · omega
          · omega
          · intro k hk
            by_cases hk2 : k = j
            · subst hk2; omega
            · exact he k (by omega)
        · have c25 := of_decide_eq_true c25
          refine lv_aload_n E.1 E.2.1 dX1_useOf_28 rfl (lv_at hl 0 rfl) ?_
          refine lv_iload_n E.1 E.2.1 dX1_useOf_29 rfl (lv_at hl 3 rfl) ?_
          refine kVRE (As := [.int (iI (x))]) E cw_X1_137 (c_X3_useOf G l (b + 5 + 2 * j) (x) (se σ j) (hI.rowb (by omega)) (by omega)) ho_ ⟨_, _, rfl⟩ ho_ hL hl.1 rfl rfl (Nat.le_of_ble_eq_true rfl) ⟨Nat.le_of_ble_eq_true rfl, Nat.le_of_ble_eq_true rfl⟩ ⟨rfl, rfl⟩ ⟨Nat.le_of_ble_eq_true rfl, Nat.le_of_ble_eq_true rfl⟩ dX1_useOf_30 (fun locs hL => ?_)
          refine e_iret (rm := ({ frames := 1, cells := 0, slots := 0, locals := 21 } : Room)) (v := iI (if x < (se σ j 1 : Nat) + (se σ j 3 : Nat) then 1 else if se σ j 0 = 1 ∧ ((se σ j 1 : Nat) : Int) + (se σ j 2 : Nat) - (se σ j 4 : Nat) ≤ x then 2 else 3)) E hL dX1_useOf_33 ?_
          refine RE_i ?_
          unfold useN
          rw [sesAt_of hI (n := j) (by omega) (by omega) (by omega)]
          have hr4 := hI.row (n := j) (by omega)
          simp only []
          split <;> split <;> (try split) <;> (try split) <;> omega
  refine LP2 _ 0 0 ls locs ?_ ?_ ?_ rfl (lv_sub hl [0, 1, 2] rfl) hL
  · omega
  · rfl
  · intro k hk; omega
end
section
set_option maxHeartbeats 4000000 in
set_option maxRecDepth 100000 in
theorem c_X1_foundFile (G : GG) (l : Launch) (b : Nat) (fl : Nat → Option Fil) (σ : St) (hI : Inv σ) (k : Nat) (hk : k < 20) : Ct G l yX1_foundFile cX1_foundFile 3 (some (.object "WriteOnceDisc$StoredFile")) ({ frames := 4, cells := 0, slots := 0, locals := 94 } : Room) [.ref (b), .int (iI ((k : Int)))] (fun H => DiscAt G b fl σ H) (QX (fun r => r.bind fl = foundF σ k ∧ ∀ a, r = some a → ∃ f, fl a = some f)) := by
  refine Ct.of (by decide +kernel) (Nat.le_of_ble_eq_true rfl) ?_
  intro p e s m args below meth c ls E hnm hP hl
  have i1 := hI.mn12
  have i2 := hI.nx240
  have hl : lv_has ls 3 [(0, .ref (b)), (1, .int (iI ((k : Int))))] := hl
  have hL : Lk G [] := Lk.nil
  generalize ([] : List Loc) = locs at hL ⊢
  refine lv_aload_n E.1 E.2.1 dX1_foundFile_0 rfl (lv_at hl 0 rfl) ?_
  refine lv_aload_n E.1 E.2.1 dX1_foundFile_1 rfl (lv_at hl 0 rfl) ?_
  refine r_const E dX1_foundFile_2 ?_
  refine kVRE (As := [.int (iI ((-1)))]) E cw_X1_47 (c_X1_validNumberIf G l b fl σ hI ((-1)) (by unfold okI; omega)) hP.1 ⟨_, _, rfl⟩ hP hL hl.1 rfl rfl (Nat.le_of_ble_eq_true rfl) ⟨Nat.le_of_ble_eq_true rfl, Nat.le_of_ble_eq_true rfl⟩ ⟨rfl, rfl⟩ ⟨Nat.le_of_ble_eq_true rfl, Nat.le_of_ble_eq_true rfl⟩ dX1_foundFile_3 (fun locs hL => ?_)
  rw [dmH_m1 (σ := σ) (h := -1) (by decide)]
  rcases hv : validD σ (dm σ) with _ | n
  · rw [show oI none = -6 from rfl]
    refine kVQE (As := [.int (iI ((-6)))]) E cw_X1_51 (c_sessionAt_n G l b fl σ hI ((-6)) (by unfold okI; omega) (by omega)) hP.1 ⟨_, _, rfl⟩ hP hL hl.1 rfl rfl (Nat.le_of_ble_eq_true rfl) ⟨Nat.le_of_ble_eq_true rfl, Nat.le_of_ble_eq_true rfl⟩ ⟨rfl, rfl⟩ ⟨Nat.le_of_ble_eq_true rfl, Nat.le_of_ble_eq_true rfl⟩ dX1_foundFile_6 (fun locs hL => ?_)
    refine lv_astore_nN (lv' := [(2, .null), (0, .ref (b)), (1, .int (iI ((k : Int))))]) E.1 E.2.1 dX1_foundFile_9 rfl hl (by decide) rfl (fun ls hl => ?_)
    refine lv_aload_nN E.1 E.2.1 dX1_foundFile_10 rfl (lv_at hl 0 rfl) ?_
    refine lv_ifnonnullN E.1 E.2.1 dX1_foundFile_11 ?_
    refine lv_null E.1 E.2.1 dX1_foundFile_14 ?_
    refine lv_goto (tgt := 23) E.1 E.2.1 dX1_foundFile_15 (by decide) ?_
    refine e_aret (rm := ({ frames := 4, cells := 0, slots := 0, locals := 94 } : Room)) (r := none) E hL dX1_foundFile_23 ?_
    exact ⟨none, rfl, rfl, by simp only [foundF, hv]; rfl, fun a h => by cases h⟩
  · have hn := validD_lt hv
    rw [show oI (some n) = (n : Int) from rfl]
    obtain ⟨t_, ho_, hr_, ht_⟩ := hP.live (n := n) (by omega) (by omega)
    refine kVQE (As := [.int (iI ((n : Int)))]) E cw_X1_51 (c_sessionAt_s G l b fl σ hI n (by omega)) hP.1 ⟨_, _, rfl⟩ hP hL hl.1 rfl rfl (Nat.le_of_ble_eq_true rfl) ⟨Nat.le_of_ble_eq_true rfl, Nat.le_of_ble_eq_true rfl⟩ ⟨rfl, rfl⟩ ⟨Nat.le_of_ble_eq_true rfl, Nat.le_of_ble_eq_true rfl⟩ dX1_foundFile_6 (fun locs hL => ?_)
    refine lv_astore_n (lv' := [(2, .ref (b + 5 + 2 * n)), (0, .ref (b)), (1, .int (iI ((k : Int))))]) E.1 E.2.1 dX1_foundFile_9 rfl hl (by decide) rfl (fun ls hl => ?_)
    refine lv_aload_n E.1 E.2.1 dX1_foundFile_10 rfl (lv_at hl 0 rfl) ?_
    refine lv_ifnonnull (tgt := 18) E.1 E.2.1 dX1_foundFile_11 (by decide) ?_
    refine lv_aload_n E.1 E.2.1 dX1_foundFile_18 rfl (lv_at hl 0 rfl) ?_
    refine lv_iload_n E.1 E.2.1 dX1_foundFile_19 rfl (lv_at hl 2 rfl) ?_
    refine kVQE (As := [.int (iI ((k : Int)))]) E cw_X1_90 (c_fileOf_in G l (b + 5 + 2 * n) (k) (encR (se σ n)) t_ (by omega)) ho_ ⟨_, _, rfl⟩ ⟨ho_, hr_⟩ hL hl.1 rfl rfl (Nat.le_of_ble_eq_true rfl) ⟨Nat.le_of_ble_eq_true rfl, Nat.le_of_ble_eq_true rfl⟩ ⟨rfl, rfl⟩ ⟨Nat.le_of_ble_eq_true rfl, Nat.le_of_ble_eq_true rfl⟩ dX1_foundFile_20 (fun locs hL => ?_)
    refine e_aret (rm := ({ frames := 4, cells := 0, slots := 0, locals := 94 } : Room)) (r := t_ (k)) E hL dX1_foundFile_23 ?_
    exact ⟨t_ k, rfl, rfl, by simp only [foundF, hv]; exact (ht_ k hk).1, (ht_ k hk).2⟩

set_option maxHeartbeats 4000000 in
set_option maxRecDepth 100000 in
theorem c_X1_countIntactIf (G : GG) (l : Launch) (b fb : Nat) (fl : Nat → Option Fil) (σ : St) (hI : Inv σ) (h : Int) (hh : okI h) : Ct G l yX1_countIntactIf cX1_countIntactIf 6 (some .int) ({ frames := 4, cells := 0, slots := 0, locals := 94 } : Room) [.ref (b), .int (iI (h))] (fun H => DiscAt G b fl σ H ∧ FlAt G fb fl H) (RE (iI (cntIntact σ (dmH σ h)))) := by
  refine Ct.of (by decide +kernel) (Nat.le_of_ble_eq_true rfl) ?_
  intro p e s m args below meth c ls E hnm hP hl
  have i1 := hI.mn12
  have i2 := hI.nx240
  obtain ⟨hP, hFl⟩ := hP
  obtain ⟨hh1, hh2⟩ := hh
  have hl : lv_has ls 6 [(0, .ref (b)), (1, .int (iI (h)))] := hl
  have hL : Lk G [] := Lk.nil
  generalize ([] : List Loc) = locs at hL ⊢
  refine lv_aload_n E.1 E.2.1 dX1_countIntactIf_0 rfl (lv_at hl 0 rfl) ?_
  refine lv_aload_n E.1 E.2.1 dX1_countIntactIf_1 rfl (lv_at hl 0 rfl) ?_
  refine lv_iload_n E.1 E.2.1 dX1_countIntactIf_2 rfl (lv_at hl 1 rfl) ?_
  refine kVRE (As := [.int (iI (h))]) E cw_X1_47 (c_X1_validNumberIf G l b fl σ hI (h) (by unfold okI; omega)) hP.1 ⟨_, _, rfl⟩ hP hL hl.1 rfl rfl (Nat.le_of_ble_eq_true rfl) ⟨Nat.le_of_ble_eq_true rfl, Nat.le_of_ble_eq_true rfl⟩ ⟨rfl, rfl⟩ ⟨Nat.le_of_ble_eq_true rfl, Nat.le_of_ble_eq_true rfl⟩ dX1_countIntactIf_3 (fun locs hL => ?_)
  rcases hv : validD σ (dmH σ h) with _ | n
  · rw [show oI none = -6 from rfl]
    refine kVQE (As := [.int (iI ((-6)))]) E cw_X1_51 (c_sessionAt_n G l b fl σ hI ((-6)) (by unfold okI; omega) (by omega)) hP.1 ⟨_, _, rfl⟩ hP hL hl.1 rfl rfl (Nat.le_of_ble_eq_true rfl) ⟨Nat.le_of_ble_eq_true rfl, Nat.le_of_ble_eq_true rfl⟩ ⟨rfl, rfl⟩ ⟨Nat.le_of_ble_eq_true rfl, Nat.le_of_ble_eq_true rfl⟩ dX1_countIntactIf_6 (fun locs hL => ?_)
    refine lv_astore_nN (lv' := [(2, .null), (0, .ref (b)), (1, .int (iI (h)))]) E.1 E.2.1 dX1_countIntactIf_9 rfl hl (by decide) rfl (fun ls hl => ?_)
    refine lv_aload_nN E.1 E.2.1 dX1_countIntactIf_10 rfl (lv_at hl 0 rfl) ?_
    refine lv_ifnonnullN E.1 E.2.1 dX1_countIntactIf_11 ?_
    refine r_const E dX1_countIntactIf_14 ?_
    refine e_iret (rm := ({ frames := 4, cells := 0, slots := 0, locals := 94 } : Room)) (v := iI (0)) E hL dX1_countIntactIf_15 ?_
    exact RE_i (by simp only [cntIntact, hv]; rfl)
  · have hn := validD_lt hv
    rw [show oI (some n) = (n : Int) from rfl]
    obtain ⟨t_, ho_, hr_, ht_⟩ := hP.live (n := n) (by omega) (by omega)
    refine kVQE (As := [.int (iI ((n : Int)))]) E cw_X1_51 (c_sessionAt_s G l b fl σ hI n (by omega)) hP.1 ⟨_, _, rfl⟩ hP hL hl.1 rfl rfl (Nat.le_of_ble_eq_true rfl) ⟨Nat.le_of_ble_eq_true rfl, Nat.le_of_ble_eq_true rfl⟩ ⟨rfl, rfl⟩ ⟨Nat.le_of_ble_eq_true rfl, Nat.le_of_ble_eq_true rfl⟩ dX1_countIntactIf_6 (fun locs hL => ?_)
    refine lv_astore_n (lv' := [(2, .ref (b + 5 + 2 * n)), (0, .ref (b)), (1, .int (iI (h)))]) E.1 E.2.1 dX1_countIntactIf_9 rfl hl (by decide) rfl (fun ls hl => ?_)
    refine lv_aload_n E.1 E.2.1 dX1_countIntactIf_10 rfl (lv_at hl 0 rfl) ?_
    refine lv_ifnonnull (tgt := 16) E.1 E.2.1 dX1_countIntactIf_11 (by decide) ?_
    refine r_const E dX1_countIntactIf_16 ?_
    refine lv_istore_n (lv' := [(3, .int (iI (0))), (2, .ref (b + 5 + 2 * n)), (0, .ref (b)), (1, .int (iI (h)))]) E.1 E.2.1 dX1_countIntactIf_17 rfl hl (by decide) rfl (fun ls hl => ?_)
    refine r_const E dX1_countIntactIf_18 ?_
    refine lv_istore (lv' := [(4, .int (iI (0))), (3, .int (iI (0))), (2, .ref (b + 5 + 2 * n)), (0, .ref (b)), (1, .int (iI (h)))]) E.1 E.2.1 dX1_countIntactIf_19 hl (by decide) rfl (fun ls hl => ?_)
    have LP21 : ∀ (kin21 : Nat) (k : Nat) (u v : Int) (ls : Array Slot) (locs : List Loc) (hk : k ≤ 20) (hu : u = (k : Int)) (hv2 : v = (cntB (fun k => intactO (dmH σ h) (en σ n k)) k : Nat)) (hkin21 : 20 - k = kin21) (hl : lv_has ls 6 [(4, .int (iI (u))), (3, .int (iI (v))), (2, .ref (b + 5 + 2 * n)), (0, .ref (b)), (1, .int (iI (h)))]) (hL : Lk G locs), W p l e ({ frames := 4, cells := 0, slots := 0, locals := 94 } : Room) s m args below meth c s.heap locs 0 0 (QQ G below args s ({ frames := 4, cells := 0, slots := 0, locals := 94 } : Room) (RE (iI (cntIntact σ (dmH σ h))))) (F0 m 21 ls []) := by
      intro kin21
      induction kin21 using Nat.strongRecOn with
      | ind kin21 ihin21 =>
        intro k u v ls locs hk hu hv2 hkin21 hl hL
        refine lv_iload E.1 E.2.1 dX1_countIntactIf_21 (lv_at hl 0 rfl) ?_
        refine r_bipush E dX1_countIntactIf_23 (by decide) ?_
        refine r_icmp_ge (tgt := 60) E dX1_countIntactIf_25 (by decide) (by omega) (by omega) (fun c25 => ?_) (fun c25 => ?_)
        · refine lv_iload_n E.1 E.2.1 dX1_countIntactIf_60 rfl (lv_at hl 1 rfl) ?_
          refine e_iret (rm := ({ frames := 4, cells := 0, slots := 0, locals := 94 } : Room)) (v := iI (v)) E hL dX1_countIntactIf_61 ?_
          exact RE_i (by rw [hv2, show k = 20 by omega]; simp only [cntIntact, hv])
        · subst hu
          refine lv_aload_n E.1 E.2.1 dX1_countIntactIf_28 rfl (lv_at hl 2 rfl) ?_
          refine lv_iload E.1 E.2.1 dX1_countIntactIf_29 (lv_at hl 0 rfl) ?_
          refine kVQE (As := [.int (iI ((k : Int)))]) E cw_X1_90 (c_fileOf_in G l (b + 5 + 2 * n) (k) (encR (se σ n)) t_ (by omega)) ho_ ⟨_, _, rfl⟩ ⟨ho_, hr_⟩ hL hl.1 rfl rfl (Nat.le_of_ble_eq_true rfl) ⟨Nat.le_of_ble_eq_true rfl, Nat.le_of_ble_eq_true rfl⟩ ⟨rfl, rfl⟩ ⟨Nat.le_of_ble_eq_true rfl, Nat.le_of_ble_eq_true rfl⟩ dX1_countIntactIf_31 (fun locs hL => ?_)
          rcases htk : t_ (k) with _ | a
          · have he : none = en σ n (k) := by have h9 := (ht_ (k) (by omega)).1; rw [htk] at h9; exact h9
            refine lv_astoreN (lv' := [(5, .null), (4, .int (iI ((k : Int)))), (3, .int (iI (v))), (2, .ref (b + 5 + 2 * n)), (0, .ref (b)), (1, .int (iI (h)))]) E.1 E.2.1 dX1_countIntactIf_34 hl (by decide) rfl (fun ls hl => ?_)
            refine lv_aloadN E.1 E.2.1 dX1_countIntactIf_36 (lv_at hl 0 rfl) ?_
            refine lv_ifnullN (tgt := 54) E.1 E.2.1 dX1_countIntactIf_38 (by decide) ?_
            refine r_inc (lv' := [(4, .int (iI ((k : Int) + 1))), (5, .null), (3, .int (iI (v))), (2, .ref (b + 5 + 2 * n)), (0, .ref (b)), (1, .int (iI (h)))]) E dX1_countIntactIf_54 hl (k := 1) rfl (by decide) rfl (fun ls hl => ?_)
            refine lv_goto (tgt := 21) E.1 E.2.1 dX1_countIntactIf_57 (by decide) ?_
            refine ihin21 _ ?_ (k + 1) ((k : Int) + 1) v ls locs ?_ ?_ ?_ rfl (lv_sub hl [0, 2, 3, 4, 5] rfl) hL
            · omega
            · omega
            · omega
            · first | (rw [hv2]; simp [cntB, ← he, intactO]; done) | (rw [hv2]; simp [cntB, ← he, intactO, c48]; done)
          · obtain ⟨f, hf⟩ := (ht_ (k) (by omega)).2 a htk
            have he : some f = en σ n (k) := by have h9 := (ht_ (k) (by omega)).1; rw [htk] at h9; rw [← h9]; exact hf.symm
            have hfb := hI.ent2 (n := n) (k := k) (by omega) (by omega) he.symm
            refine lv_astore (lv' := [(5, .ref (a)), (4, .int (iI ((k : Int)))), (3, .int (iI (v))), (2, .ref (b + 5 + 2 * n)), (0, .ref (b)), (1, .int (iI (h)))]) E.1 E.2.1 dX1_countIntactIf_34 hl (by decide) rfl (fun ls hl => ?_)
            refine lv_aload E.1 E.2.1 dX1_countIntactIf_36 (lv_at hl 0 rfl) ?_
            refine lv_ifnull E.1 E.2.1 dX1_countIntactIf_38 ?_
            refine lv_aload_n E.1 E.2.1 dX1_countIntactIf_41 rfl (lv_at hl 4 rfl) ?_
            refine lv_aload E.1 E.2.1 dX1_countIntactIf_42 (lv_at hl 0 rfl) ?_
            refine lv_iload_n E.1 E.2.1 dX1_countIntactIf_44 rfl (lv_at hl 5 rfl) ?_
            refine kVRE (As := [.ref (a), .int (iI (h))]) E cw_X1_143 (c_X1_isIntactIf G l b fb fl σ (a) (f) (h) (by unfold okI; omega) (hf) (by omega)) hP.1 ⟨_, _, rfl⟩ ⟨hP, hFl⟩ hL hl.1 rfl rfl (Nat.le_of_ble_eq_true rfl) ⟨Nat.le_of_ble_eq_true rfl, Nat.le_of_ble_eq_true rfl⟩ ⟨rfl, rfl⟩ ⟨Nat.le_of_ble_eq_true rfl, Nat.le_of_ble_eq_true rfl⟩ dX1_countIntactIf_45 (fun locs hL => ?_)
            refine r_bif_eq (tgt := 54) E dX1_countIntactIf_48 (by decide)  (fun c48 => ?_) (fun c48 => ?_)
            · refine r_inc (lv' := [(4, .int (iI ((k : Int) + 1))), (5, .ref (a)), (3, .int (iI (v))), (2, .ref (b + 5 + 2 * n)), (0, .ref (b)), (1, .int (iI (h)))]) E dX1_countIntactIf_54 hl (k := 1) rfl (by decide) rfl (fun ls hl => ?_)
              refine lv_goto (tgt := 21) E.1 E.2.1 dX1_countIntactIf_57 (by decide) ?_
              refine ihin21 _ ?_ (k + 1) ((k : Int) + 1) v ls locs ?_ ?_ ?_ rfl (lv_sub hl [0, 2, 3, 4, 5] rfl) hL
              · omega
              · omega
              · omega
              · first | (rw [hv2]; simp [cntB, ← he, intactO]; done) | (rw [hv2]; simp [cntB, ← he, intactO, c48]; done)
            · refine r_inc (lv' := [(3, .int (iI (v + 1))), (5, .ref (a)), (4, .int (iI ((k : Int)))), (2, .ref (b + 5 + 2 * n)), (0, .ref (b)), (1, .int (iI (h)))]) E dX1_countIntactIf_51 hl (k := 2) rfl (by decide) rfl (fun ls hl => ?_)
              refine r_inc (lv' := [(4, .int (iI ((k : Int) + 1))), (3, .int (iI (v + 1))), (5, .ref (a)), (2, .ref (b + 5 + 2 * n)), (0, .ref (b)), (1, .int (iI (h)))]) E dX1_countIntactIf_54 hl (k := 2) rfl (by decide) rfl (fun ls hl => ?_)
              refine lv_goto (tgt := 21) E.1 E.2.1 dX1_countIntactIf_57 (by decide) ?_
              refine ihin21 _ ?_ (k + 1) ((k : Int) + 1) (v + 1) ls locs ?_ ?_ ?_ rfl (lv_sub hl [0, 1, 3, 4, 5] rfl) hL
              · omega
              · omega
              · omega
              · first | (rw [hv2]; simp [cntB, ← he, intactO]; done) | (rw [hv2]; simp [cntB, ← he, intactO, c48]; done)
    refine LP21 _ 0 0 0 ls locs ?_ ?_ ?_ rfl (lv_sub hl [0, 1, 2, 3, 4] rfl) hL
    · omega
    · rfl
    · rfl

set_option maxHeartbeats 4000000 in
set_option maxRecDepth 100000 in
theorem c_X1_latestWithIntact (G : GG) (l : Launch) (b fb : Nat) (fl : Nat → Option Fil) (σ : St) (hI : Inv σ) (k : Nat) (hk : k < 20) : Ct G l yX1_latestWithIntact cX1_latestWithIntact 5 (some .int) ({ frames := 3, cells := 0, slots := 0, locals := 71 } : Room) [.ref (b), .int (iI ((k : Int)))] (fun H => DiscAt G b fl σ H ∧ FlAt G fb fl H) (RE (iI (oI (lastB (fun n => readB σ (dm σ) n && intactO (dm σ) (en σ n k)) (mn σ))))) := by
  refine Ct.of (by decide +kernel) (Nat.le_of_ble_eq_true rfl) ?_
  intro p e s m args below meth c ls E hnm hP hl
  have i1 := hI.mn12
  have i2 := hI.nx240
  obtain ⟨hP, hFl⟩ := hP
  have hl : lv_has ls 5 [(0, .ref (b)), (1, .int (iI ((k : Int))))] := hl
  have hL : Lk G [] := Lk.nil
  generalize ([] : List Loc) = locs at hL ⊢
  refine lv_aload_n E.1 E.2.1 dX1_latestWithIntact_0 rfl (lv_at hl 0 rfl) ?_
  refine m_get E hP.1 fw_X1_29 rfl dX1_latestWithIntact_1 ?_
  refine r_const E dX1_latestWithIntact_4 ?_
  refine r_sub E dX1_latestWithIntact_5 ?_
  refine lv_istore_n (lv' := [(2, .int (iI ((mn σ : Int) - 1))), (0, .ref (b)), (1, .int (iI ((k : Int))))]) E.1 E.2.1 dX1_latestWithIntact_6 rfl hl (by decide) rfl (fun ls hl => ?_)
  have LP7 : ∀ (kin7 : Nat) (j : Nat) (z : Int) (ls : Array Slot) (locs : List Loc) (hj : j ≤ mn σ) (hz : z = (j : Int) - 1) (hle : lastB (fun n => readB σ (dm σ) n && intactO (dm σ) (en σ n k)) (mn σ) = lastB (fun n => readB σ (dm σ) n && intactO (dm σ) (en σ n k)) j) (hkin7 : j = kin7) (hl : lv_has ls 5 [(2, .int (iI (z))), (0, .ref (b)), (1, .int (iI ((k : Int))))]) (hL : Lk G locs), W p l e ({ frames := 3, cells := 0, slots := 0, locals := 71 } : Room) s m args below meth c s.heap locs 0 0 (QQ G below args s ({ frames := 3, cells := 0, slots := 0, locals := 71 } : Room) (RE (iI (oI (lastB (fun n => readB σ (dm σ) n && intactO (dm σ) (en σ n k)) (mn σ)))))) (F0 m 7 ls []) := by
    intro kin7
    induction kin7 using Nat.strongRecOn with
    | ind kin7 ihin7 =>
      intro j z ls locs hj hz hle hkin7 hl hL
      refine lv_iload_n E.1 E.2.1 dX1_latestWithIntact_7 rfl (lv_at hl 0 rfl) ?_
      refine r_if_lt (tgt := 60) E dX1_latestWithIntact_8 (by decide) (by omega) (fun c8 => ?_) (fun c8 => ?_)
      · refine r_bipush E dX1_latestWithIntact_60 (by decide) ?_
        refine e_iret (rm := ({ frames := 3, cells := 0, slots := 0, locals := 71 } : Room)) (v := iI ((-6))) E hL dX1_latestWithIntact_62 ?_
        exact RE_i (by rw [hle, show j = 0 by omega]; rfl)
      · obtain ⟨n, hn⟩ : ∃ n : Nat, z = (n : Int) := ⟨z.toNat, by omega⟩
        subst hn
        obtain ⟨t_, ho_, hr_, ht_⟩ := hP.live (n := n) (by omega) (by omega)
        refine lv_aload_n E.1 E.2.1 dX1_latestWithIntact_11 rfl (lv_at hl 1 rfl) ?_
        refine lv_iload_n E.1 E.2.1 dX1_latestWithIntact_12 rfl (lv_at hl 0 rfl) ?_
        refine kVQE (As := [.int (iI ((n : Int)))]) E cw_X1_51 (c_sessionAt_s G l b fl σ hI n (by omega)) hP.1 ⟨_, _, rfl⟩ hP hL hl.1 rfl rfl (Nat.le_of_ble_eq_true rfl) ⟨Nat.le_of_ble_eq_true rfl, Nat.le_of_ble_eq_true rfl⟩ ⟨rfl, rfl⟩ ⟨Nat.le_of_ble_eq_true rfl, Nat.le_of_ble_eq_true rfl⟩ dX1_latestWithIntact_13 (fun locs hL => ?_)
        refine lv_astore_n (lv' := [(3, .ref (b + 5 + 2 * n)), (2, .int (iI ((n : Int)))), (0, .ref (b)), (1, .int (iI ((k : Int))))]) E.1 E.2.1 dX1_latestWithIntact_16 rfl hl (by decide) rfl (fun ls hl => ?_)
        refine lv_aload_n E.1 E.2.1 dX1_latestWithIntact_17 rfl (lv_at hl 0 rfl) ?_
        refine lv_ifnull E.1 E.2.1 dX1_latestWithIntact_18 ?_
        refine lv_aload_n E.1 E.2.1 dX1_latestWithIntact_21 rfl (lv_at hl 2 rfl) ?_
        refine lv_aload_n E.1 E.2.1 dX1_latestWithIntact_22 rfl (lv_at hl 0 rfl) ?_
        refine r_const E dX1_latestWithIntact_23 ?_
        refine kVRE (As := [.ref (b + 5 + 2 * n), .int (iI ((-1)))]) E cw_X1_97 (c_X1_isReadableIf G l b fl σ hI (n) ((-1)) (by unfold okI; omega) (by omega)) hP.1 ⟨_, _, rfl⟩ hP hL hl.1 rfl rfl (Nat.le_of_ble_eq_true rfl) ⟨Nat.le_of_ble_eq_true rfl, Nat.le_of_ble_eq_true rfl⟩ ⟨rfl, rfl⟩ ⟨Nat.le_of_ble_eq_true rfl, Nat.le_of_ble_eq_true rfl⟩ dX1_latestWithIntact_24 (fun locs hL => ?_)
        rw [dmH_m1 (σ := σ) (h := -1) (by decide)]
        refine r_bif_eq (tgt := 54) E dX1_latestWithIntact_27 (by decide)  (fun c27 => ?_) (fun c27 => ?_)
        · refine r_inc (lv' := [(2, .int (iI ((n : Int) + (-1)))), (3, .ref (b + 5 + 2 * n)), (0, .ref (b)), (1, .int (iI ((k : Int))))]) E dX1_latestWithIntact_54 hl (k := 1) rfl (by decide) rfl (fun ls hl => ?_)
          refine lv_goto (tgt := 7) E.1 E.2.1 dX1_latestWithIntact_57 (by decide) ?_
          refine ihin7 _ ?_ n ((n : Int) + (-1)) ls locs ?_ ?_ ?_ rfl (lv_sub hl [0, 2, 3] rfl) hL
          · omega
          · omega
          · omega
          · rw [hle, show j = n + 1 by omega, lastB, if_neg]
            first | (simp [c27]; done) | (simp [← he, intactO]; done) | (simp [← he, intactO, c49]; done)
        · refine lv_aload_n E.1 E.2.1 dX1_latestWithIntact_30 rfl (lv_at hl 0 rfl) ?_
          refine lv_iload_n E.1 E.2.1 dX1_latestWithIntact_31 rfl (lv_at hl 3 rfl) ?_
          refine kVQE (As := [.int (iI ((k : Int)))]) E cw_X1_90 (c_fileOf_in G l (b + 5 + 2 * n) (k) (encR (se σ n)) t_ (by omega)) ho_ ⟨_, _, rfl⟩ ⟨ho_, hr_⟩ hL hl.1 rfl rfl (Nat.le_of_ble_eq_true rfl) ⟨Nat.le_of_ble_eq_true rfl, Nat.le_of_ble_eq_true rfl⟩ ⟨rfl, rfl⟩ ⟨Nat.le_of_ble_eq_true rfl, Nat.le_of_ble_eq_true rfl⟩ dX1_latestWithIntact_32 (fun locs hL => ?_)
          rcases htk : t_ (k) with _ | a
          · have he : none = en σ n (k) := by have h9 := (ht_ (k) (by omega)).1; rw [htk] at h9; exact h9
            refine lv_astoreN (lv' := [(4, .null), (3, .ref (b + 5 + 2 * n)), (2, .int (iI ((n : Int)))), (0, .ref (b)), (1, .int (iI ((k : Int))))]) E.1 E.2.1 dX1_latestWithIntact_35 hl (by decide) rfl (fun ls hl => ?_)
            refine lv_aloadN E.1 E.2.1 dX1_latestWithIntact_37 (lv_at hl 0 rfl) ?_
            refine lv_ifnullN (tgt := 54) E.1 E.2.1 dX1_latestWithIntact_39 (by decide) ?_
            refine r_inc (lv' := [(2, .int (iI ((n : Int) + (-1)))), (4, .null), (3, .ref (b + 5 + 2 * n)), (0, .ref (b)), (1, .int (iI ((k : Int))))]) E dX1_latestWithIntact_54 hl (k := 2) rfl (by decide) rfl (fun ls hl => ?_)
            refine lv_goto (tgt := 7) E.1 E.2.1 dX1_latestWithIntact_57 (by decide) ?_
            refine ihin7 _ ?_ n ((n : Int) + (-1)) ls locs ?_ ?_ ?_ rfl (lv_sub hl [0, 3, 4] rfl) hL
            · omega
            · omega
            · omega
            · rw [hle, show j = n + 1 by omega, lastB, if_neg]
              first | (simp [c27]; done) | (simp [← he, intactO]; done) | (simp [← he, intactO, c49]; done)
          · obtain ⟨f, hf⟩ := (ht_ (k) (by omega)).2 a htk
            have he : some f = en σ n (k) := by have h9 := (ht_ (k) (by omega)).1; rw [htk] at h9; rw [← h9]; exact hf.symm
            have hfb := hI.ent2 (n := n) (k := k) (by omega) (by omega) he.symm
            refine lv_astore (lv' := [(4, .ref (a)), (3, .ref (b + 5 + 2 * n)), (2, .int (iI ((n : Int)))), (0, .ref (b)), (1, .int (iI ((k : Int))))]) E.1 E.2.1 dX1_latestWithIntact_35 hl (by decide) rfl (fun ls hl => ?_)
            refine lv_aload E.1 E.2.1 dX1_latestWithIntact_37 (lv_at hl 0 rfl) ?_
            refine lv_ifnull E.1 E.2.1 dX1_latestWithIntact_39 ?_
            refine lv_aload_n E.1 E.2.1 dX1_latestWithIntact_42 rfl (lv_at hl 3 rfl) ?_
            refine lv_aload E.1 E.2.1 dX1_latestWithIntact_43 (lv_at hl 0 rfl) ?_
            refine r_const E dX1_latestWithIntact_45 ?_
            refine kVRE (As := [.ref (a), .int (iI ((-1)))]) E cw_X1_143 (c_X1_isIntactIf G l b fb fl σ (a) (f) ((-1)) (by unfold okI; omega) (hf) (by omega)) hP.1 ⟨_, _, rfl⟩ ⟨hP, hFl⟩ hL hl.1 rfl rfl (Nat.le_of_ble_eq_true rfl) ⟨Nat.le_of_ble_eq_true rfl, Nat.le_of_ble_eq_true rfl⟩ ⟨rfl, rfl⟩ ⟨Nat.le_of_ble_eq_true rfl, Nat.le_of_ble_eq_true rfl⟩ dX1_latestWithIntact_46 (fun locs hL => ?_)
            rw [dmH_m1 (σ := σ) (h := -1) (by decide)]
            refine r_bif_eq (tgt := 54) E dX1_latestWithIntact_49 (by decide)  (fun c49 => ?_) (fun c49 => ?_)
            · refine r_inc (lv' := [(2, .int (iI ((n : Int) + (-1)))), (4, .ref (a)), (3, .ref (b + 5 + 2 * n)), (0, .ref (b)), (1, .int (iI ((k : Int))))]) E dX1_latestWithIntact_54 hl (k := 2) rfl (by decide) rfl (fun ls hl => ?_)
              refine lv_goto (tgt := 7) E.1 E.2.1 dX1_latestWithIntact_57 (by decide) ?_
              refine ihin7 _ ?_ n ((n : Int) + (-1)) ls locs ?_ ?_ ?_ rfl (lv_sub hl [0, 3, 4] rfl) hL
              · omega
              · omega
              · omega
              · rw [hle, show j = n + 1 by omega, lastB, if_neg]
                first | (simp [c27]; done) | (simp [← he, intactO]; done) | (simp [← he, intactO, c49]; done)
            · refine lv_iload_n E.1 E.2.1 dX1_latestWithIntact_52 rfl (lv_at hl 2 rfl) ?_
              refine e_iret (rm := ({ frames := 3, cells := 0, slots := 0, locals := 71 } : Room)) (v := iI ((n : Int))) E hL dX1_latestWithIntact_53 ?_
              exact RE_i (by rw [hle, show j = n + 1 by omega, lastB, if_pos (by simp [c27, ← he, intactO, c49])]; rfl)
  refine LP7 _ (mn σ) ((mn σ : Int) - 1) ls locs ?_ ?_ ?_ rfl (lv_sub hl [0, 1, 2] rfl) hL
  · omega
  · rfl
  · rfl

set_option maxHeartbeats 4000000 in
set_option maxRecDepth 100000 in
theorem c_X1_countFoundSectors (G : GG) (l : Launch) (b fb : Nat) (fl : Nat → Option Fil) (σ : St) (hI : Inv σ) : Ct G l yX1_countFoundSectors cX1_countFoundSectors 5 (some .int) ({ frames := 4, cells := 0, slots := 0, locals := 94 } : Room) [.ref (b)] (fun H => DiscAt G b fl σ H ∧ FlAt G fb fl H) (RE (iI (foundSec σ))) := by
  refine Ct.of (by decide +kernel) (Nat.le_of_ble_eq_true rfl) ?_
  intro p e s m args below meth c ls E hnm hP hl
  have i1 := hI.mn12
  have i2 := hI.nx240
  obtain ⟨hP, hFl⟩ := hP
  have hl : lv_has ls 5 [(0, .ref (b))] := hl
  have hL : Lk G [] := Lk.nil
  generalize ([] : List Loc) = locs at hL ⊢
  refine lv_aload_n E.1 E.2.1 dX1_countFoundSectors_0 rfl (lv_at hl 0 rfl) ?_
  refine lv_aload_n E.1 E.2.1 dX1_countFoundSectors_1 rfl (lv_at hl 0 rfl) ?_
  refine r_const E dX1_countFoundSectors_2 ?_
  refine kVRE (As := [.int (iI ((-1)))]) E cw_X1_47 (c_X1_validNumberIf G l b fl σ hI ((-1)) (by unfold okI; omega)) hP.1 ⟨_, _, rfl⟩ hP hL hl.1 rfl rfl (Nat.le_of_ble_eq_true rfl) ⟨Nat.le_of_ble_eq_true rfl, Nat.le_of_ble_eq_true rfl⟩ ⟨rfl, rfl⟩ ⟨Nat.le_of_ble_eq_true rfl, Nat.le_of_ble_eq_true rfl⟩ dX1_countFoundSectors_3 (fun locs hL => ?_)
  rw [dmH_m1 (σ := σ) (h := -1) (by decide)]
  rcases hv : validD σ (dm σ) with _ | n
  · rw [show oI none = -6 from rfl]
    refine kVQE (As := [.int (iI ((-6)))]) E cw_X1_51 (c_sessionAt_n G l b fl σ hI ((-6)) (by unfold okI; omega) (by omega)) hP.1 ⟨_, _, rfl⟩ hP hL hl.1 rfl rfl (Nat.le_of_ble_eq_true rfl) ⟨Nat.le_of_ble_eq_true rfl, Nat.le_of_ble_eq_true rfl⟩ ⟨rfl, rfl⟩ ⟨Nat.le_of_ble_eq_true rfl, Nat.le_of_ble_eq_true rfl⟩ dX1_countFoundSectors_6 (fun locs hL => ?_)
    refine lv_astore_nN (lv' := [(1, .null), (0, .ref (b))]) E.1 E.2.1 dX1_countFoundSectors_9 rfl hl (by decide) rfl (fun ls hl => ?_)
    refine lv_aload_nN E.1 E.2.1 dX1_countFoundSectors_10 rfl (lv_at hl 0 rfl) ?_
    refine lv_ifnonnullN E.1 E.2.1 dX1_countFoundSectors_11 ?_
    refine r_const E dX1_countFoundSectors_14 ?_
    refine e_iret (rm := ({ frames := 4, cells := 0, slots := 0, locals := 94 } : Room)) (v := iI (0)) E hL dX1_countFoundSectors_15 ?_
    exact RE_i (by simp only [foundSec, hv]; rfl)
  · have hn := validD_lt hv
    rw [show oI (some n) = (n : Int) from rfl]
    obtain ⟨t_, ho_, hr_, ht_⟩ := hP.live (n := n) (by omega) (by omega)
    refine kVQE (As := [.int (iI ((n : Int)))]) E cw_X1_51 (c_sessionAt_s G l b fl σ hI n (by omega)) hP.1 ⟨_, _, rfl⟩ hP hL hl.1 rfl rfl (Nat.le_of_ble_eq_true rfl) ⟨Nat.le_of_ble_eq_true rfl, Nat.le_of_ble_eq_true rfl⟩ ⟨rfl, rfl⟩ ⟨Nat.le_of_ble_eq_true rfl, Nat.le_of_ble_eq_true rfl⟩ dX1_countFoundSectors_6 (fun locs hL => ?_)
    refine lv_astore_n (lv' := [(1, .ref (b + 5 + 2 * n)), (0, .ref (b))]) E.1 E.2.1 dX1_countFoundSectors_9 rfl hl (by decide) rfl (fun ls hl => ?_)
    refine lv_aload_n E.1 E.2.1 dX1_countFoundSectors_10 rfl (lv_at hl 0 rfl) ?_
    refine lv_ifnonnull (tgt := 16) E.1 E.2.1 dX1_countFoundSectors_11 (by decide) ?_
    refine r_const E dX1_countFoundSectors_16 ?_
    refine lv_istore_n (lv' := [(2, .int (iI (0))), (1, .ref (b + 5 + 2 * n)), (0, .ref (b))]) E.1 E.2.1 dX1_countFoundSectors_17 rfl hl (by decide) rfl (fun ls hl => ?_)
    refine r_const E dX1_countFoundSectors_18 ?_
    refine lv_istore_n (lv' := [(3, .int (iI (0))), (2, .int (iI (0))), (1, .ref (b + 5 + 2 * n)), (0, .ref (b))]) E.1 E.2.1 dX1_countFoundSectors_19 rfl hl (by decide) rfl (fun ls hl => ?_)
    have LP20 : ∀ (kin20 : Nat) (k : Nat) (u v : Int) (ls : Array Slot) (locs : List Loc) (hk : k ≤ 20) (hu : u = (k : Int)) (hv2 : v = (sumF (fun k => sizeO (en σ n k)) k : Nat)) (hkin20 : 20 - k = kin20) (hl : lv_has ls 5 [(3, .int (iI (u))), (2, .int (iI (v))), (1, .ref (b + 5 + 2 * n)), (0, .ref (b))]) (hL : Lk G locs), W p l e ({ frames := 4, cells := 0, slots := 0, locals := 94 } : Room) s m args below meth c s.heap locs 0 0 (QQ G below args s ({ frames := 4, cells := 0, slots := 0, locals := 94 } : Room) (RE (iI (foundSec σ)))) (F0 m 20 ls []) := by
      intro kin20
      induction kin20 using Nat.strongRecOn with
      | ind kin20 ihin20 =>
        intro k u v ls locs hk hu hv2 hkin20 hl hL
        refine lv_iload_n E.1 E.2.1 dX1_countFoundSectors_20 rfl (lv_at hl 0 rfl) ?_
        refine r_bipush E dX1_countFoundSectors_21 (by decide) ?_
        refine r_icmp_ge (tgt := 56) E dX1_countFoundSectors_23 (by decide) (by omega) (by omega) (fun c23 => ?_) (fun c23 => ?_)
        · refine lv_iload_n E.1 E.2.1 dX1_countFoundSectors_56 rfl (lv_at hl 1 rfl) ?_
          refine e_iret (rm := ({ frames := 4, cells := 0, slots := 0, locals := 94 } : Room)) (v := iI (v)) E hL dX1_countFoundSectors_57 ?_
          exact RE_i (by rw [hv2, show k = 20 by omega]; simp only [foundSec, hv])
        · subst hu
          refine lv_aload_n E.1 E.2.1 dX1_countFoundSectors_26 rfl (lv_at hl 2 rfl) ?_
          refine lv_iload_n E.1 E.2.1 dX1_countFoundSectors_27 rfl (lv_at hl 0 rfl) ?_
          refine kVQE (As := [.int (iI ((k : Int)))]) E cw_X1_90 (c_fileOf_in G l (b + 5 + 2 * n) (k) (encR (se σ n)) t_ (by omega)) ho_ ⟨_, _, rfl⟩ ⟨ho_, hr_⟩ hL hl.1 rfl rfl (Nat.le_of_ble_eq_true rfl) ⟨Nat.le_of_ble_eq_true rfl, Nat.le_of_ble_eq_true rfl⟩ ⟨rfl, rfl⟩ ⟨Nat.le_of_ble_eq_true rfl, Nat.le_of_ble_eq_true rfl⟩ dX1_countFoundSectors_28 (fun locs hL => ?_)
          rcases htk : t_ (k) with _ | a
          · have he : none = en σ n (k) := by have h9 := (ht_ (k) (by omega)).1; rw [htk] at h9; exact h9
            refine lv_astoreN (lv' := [(4, .null), (3, .int (iI ((k : Int)))), (2, .int (iI (v))), (1, .ref (b + 5 + 2 * n)), (0, .ref (b))]) E.1 E.2.1 dX1_countFoundSectors_31 hl (by decide) rfl (fun ls hl => ?_)
            refine lv_iload_n E.1 E.2.1 dX1_countFoundSectors_33 rfl (lv_at hl 2 rfl) ?_
            refine lv_aloadN E.1 E.2.1 dX1_countFoundSectors_34 (lv_at hl 0 rfl) ?_
            refine lv_ifnonnullN E.1 E.2.1 dX1_countFoundSectors_36 ?_
            refine r_const E dX1_countFoundSectors_39 ?_
            refine lv_goto (tgt := 48) E.1 E.2.1 dX1_countFoundSectors_40 (by decide) ?_
            refine r_add E dX1_countFoundSectors_48 ?_
            refine lv_istore_n (lv' := [(2, .int (iI (v + 0))), (4, .null), (3, .int (iI ((k : Int)))), (1, .ref (b + 5 + 2 * n)), (0, .ref (b))]) E.1 E.2.1 dX1_countFoundSectors_49 rfl hl (by decide) rfl (fun ls hl => ?_)
            refine r_inc (lv' := [(3, .int (iI ((k : Int) + 1))), (2, .int (iI (v + 0))), (4, .null), (1, .ref (b + 5 + 2 * n)), (0, .ref (b))]) E dX1_countFoundSectors_50 hl (k := 2) rfl (by decide) rfl (fun ls hl => ?_)
            refine lv_goto (tgt := 20) E.1 E.2.1 dX1_countFoundSectors_53 (by decide) ?_
            refine ihin20 _ ?_ (k + 1) ((k : Int) + 1) (v + 0) ls locs ?_ ?_ ?_ rfl (lv_sub hl [0, 1, 3, 4] rfl) hL
            · omega
            · omega
            · omega
            · rw [hv2]; simp [sumF, ← he, sizeO]
          · obtain ⟨f, hf⟩ := (ht_ (k) (by omega)).2 a htk
            have he : some f = en σ n (k) := by have h9 := (ht_ (k) (by omega)).1; rw [htk] at h9; rw [← h9]; exact hf.symm
            have hfb := hI.ent2 (n := n) (k := k) (by omega) (by omega) he.symm
            refine lv_astore (lv' := [(4, .ref (a)), (3, .int (iI ((k : Int)))), (2, .int (iI (v))), (1, .ref (b + 5 + 2 * n)), (0, .ref (b))]) E.1 E.2.1 dX1_countFoundSectors_31 hl (by decide) rfl (fun ls hl => ?_)
            refine lv_iload_n E.1 E.2.1 dX1_countFoundSectors_33 rfl (lv_at hl 2 rfl) ?_
            refine lv_aload E.1 E.2.1 dX1_countFoundSectors_34 (lv_at hl 0 rfl) ?_
            refine lv_ifnonnull (tgt := 43) E.1 E.2.1 dX1_countFoundSectors_36 (by decide) ?_
            refine lv_aload E.1 E.2.1 dX1_countFoundSectors_43 (lv_at hl 0 rfl) ?_
            refine m_get E (hFl.2 a f hf).2 fw_X1_140 rfl dX1_countFoundSectors_45 ?_
            refine r_add E dX1_countFoundSectors_48 ?_
            refine lv_istore_n (lv' := [(2, .int (iI (v + (f.2.1 : Int)))), (4, .ref (a)), (3, .int (iI ((k : Int)))), (1, .ref (b + 5 + 2 * n)), (0, .ref (b))]) E.1 E.2.1 dX1_countFoundSectors_49 rfl hl (by decide) rfl (fun ls hl => ?_)
            refine r_inc (lv' := [(3, .int (iI ((k : Int) + 1))), (2, .int (iI (v + (f.2.1 : Int)))), (4, .ref (a)), (1, .ref (b + 5 + 2 * n)), (0, .ref (b))]) E dX1_countFoundSectors_50 hl (k := 2) rfl (by decide) rfl (fun ls hl => ?_)
            refine lv_goto (tgt := 20) E.1 E.2.1 dX1_countFoundSectors_53 (by decide) ?_
            refine ihin20 _ ?_ (k + 1) ((k : Int) + 1) (v + (f.2.1 : Int)) ls locs ?_ ?_ ?_ rfl (lv_sub hl [0, 1, 3, 4] rfl) hL
            · omega
            · omega
            · omega
            · rw [hv2]; simp [sumF, ← he, sizeO]
    refine LP20 _ 0 0 0 ls locs ?_ ?_ ?_ rfl (lv_sub hl [0, 1, 2, 3] rfl) hL
    · omega
    · rfl
    · rfl

set_option maxHeartbeats 4000000 in
set_option maxRecDepth 100000 in
theorem c_X1_roomForFiles (G : GG) (l : Launch) (b : Nat) (fl : Nat → Option Fil) (σ : St) (hI : Inv σ) : Ct G l yX1_roomForFiles cX1_roomForFiles 2 (some .int) ({ frames := 2, cells := 0, slots := 0, locals := 42 } : Room) [.ref (b)] (fun H => DiscAt G b fl σ H) (RE (iI (roomN σ))) := by
  refine Ct.of (by decide +kernel) (Nat.le_of_ble_eq_true rfl) ?_
  intro p e s m args below meth c ls E hnm hP hl
  have i1 := hI.mn12
  have i2 := hI.nx240
  have i3 := hI.s0b
  have i4 := hI.s1b
  have i5 := @Inv.row σ hI
  have hl : lv_has ls 2 [(0, .ref (b))] := hl
  have hL : Lk G [] := Lk.nil
  generalize ([] : List Loc) = locs at hL ⊢
  refine lv_aload_n E.1 E.2.1 dX1_roomForFiles_0 rfl (lv_at hl 0 rfl) ?_
  refine kVQE (As := []) E cw_X1_43 (c_X1_openSession G l b fl σ hI) hP.1 ⟨_, _, rfl⟩ hP hL hl.1 rfl rfl (Nat.le_of_ble_eq_true rfl) ⟨Nat.le_of_ble_eq_true rfl, Nat.le_of_ble_eq_true rfl⟩ ⟨rfl, rfl⟩ ⟨Nat.le_of_ble_eq_true rfl, Nat.le_of_ble_eq_true rfl⟩ dX1_roomForFiles_1 (fun locs hL => ?_)
  rcases hop : opn σ with _ | n
  · refine lv_astore_nN (lv' := [(1, .null), (0, .ref (b))]) E.1 E.2.1 dX1_roomForFiles_4 rfl hl (by decide) rfl (fun ls hl => ?_)
    refine lv_aload_nN E.1 E.2.1 dX1_roomForFiles_5 rfl (lv_at hl 0 rfl) ?_
    refine lv_ifnullN (tgt := 27) E.1 E.2.1 dX1_roomForFiles_6 (by decide) ?_
    refine lv_aload_n E.1 E.2.1 dX1_roomForFiles_27 rfl (lv_at hl 1 rfl) ?_
    refine m_get E hP.1 fw_X1_29 rfl dX1_roomForFiles_28 ?_
    refine r_bipush E dX1_roomForFiles_31 (by decide) ?_
    refine r_icmp_lt (tgt := 38) E dX1_roomForFiles_33 (by decide) (by omega) (by omega) (fun c33 => ?_) (fun c33 => ?_)
    · refine r_sipush E dX1_roomForFiles_38 (by decide) ?_
      refine lv_aload_n E.1 E.2.1 dX1_roomForFiles_41 rfl (lv_at hl 1 rfl) ?_
      refine m_get E hP.1 fw_X1_33 rfl dX1_roomForFiles_42 ?_
      refine r_sub E dX1_roomForFiles_45 ?_
      refine lv_aload_n E.1 E.2.1 dX1_roomForFiles_46 rfl (lv_at hl 1 rfl) ?_
      refine m_get E hP.1 fw_X1_25 rfl dX1_roomForFiles_47 ?_
      refine r_const E dX1_roomForFiles_50 ?_
      refine r_iald E hP.2.2.2.2.1 (0) rfl (by decide) (by decide) dX1_roomForFiles_51 ?_
      rw [if_pos rfl]
      refine r_sub E dX1_roomForFiles_52 ?_
      refine lv_aload_n E.1 E.2.1 dX1_roomForFiles_53 rfl (lv_at hl 1 rfl) ?_
      refine m_get E hP.1 fw_X1_25 rfl dX1_roomForFiles_54 ?_
      refine r_const E dX1_roomForFiles_57 ?_
      refine r_iald E hP.2.2.2.2.1 (1) rfl (by decide) (by decide) dX1_roomForFiles_58 ?_
      rw [if_neg (by decide)]
      refine r_sub E dX1_roomForFiles_59 ?_
      refine r_const E dX1_roomForFiles_60 ?_
      refine r_max E ml_X1_131 hl.1 (Nat.le_of_ble_eq_true rfl) (Nat.le_of_ble_eq_true rfl) (Nat.le_of_ble_eq_true rfl) (Nat.le_of_ble_eq_true rfl) (by omega) (by omega) dX1_roomForFiles_61 (fun z1 hz1 => ?_)
      refine e_iret (rm := ({ frames := 2, cells := 0, slots := 0, locals := 42 } : Room)) (v := iI (z1)) E hL dX1_roomForFiles_64 ?_
      exact RE_i (by first | (simp only [roomN, hop]; rw [if_neg (by omega)]; omega) | (simp only [roomN, hop]; omega))
    · refine r_const E dX1_roomForFiles_36 ?_
      refine e_iret (rm := ({ frames := 2, cells := 0, slots := 0, locals := 42 } : Room)) (v := iI (0)) E hL dX1_roomForFiles_37 ?_
      exact RE_i (by simp only [roomN, hop]; rw [if_pos (by omega)]; rfl)
  · have hn := (opn_some hop).1
    have hn0 := (opn_some hop).2
    have hrow := hI.row (n := n) (by omega)
    obtain ⟨t_, ho_, hr_, ht_⟩ := hP.live (n := n) (by omega) (by omega)
    refine lv_astore_n (lv' := [(1, .ref (b + 5 + 2 * n)), (0, .ref (b))]) E.1 E.2.1 dX1_roomForFiles_4 rfl hl (by decide) rfl (fun ls hl => ?_)
    refine lv_aload_n E.1 E.2.1 dX1_roomForFiles_5 rfl (lv_at hl 0 rfl) ?_
    refine lv_ifnull E.1 E.2.1 dX1_roomForFiles_6 ?_
    refine r_sipush E dX1_roomForFiles_9 (by decide) ?_
    refine lv_aload_n E.1 E.2.1 dX1_roomForFiles_12 rfl (lv_at hl 1 rfl) ?_
    refine m_get E hP.1 fw_X1_33 rfl dX1_roomForFiles_13 ?_
    refine r_sub E dX1_roomForFiles_16 ?_
    refine lv_aload_n E.1 E.2.1 dX1_roomForFiles_17 rfl (lv_at hl 0 rfl) ?_
    refine m_get E ho_ fw_X1_122 rfl dX1_roomForFiles_18 ?_
    refine r_sub E dX1_roomForFiles_21 ?_
    refine r_const E dX1_roomForFiles_22 ?_
    refine r_max E ml_X1_131 hl.1 (Nat.le_of_ble_eq_true rfl) (Nat.le_of_ble_eq_true rfl) (Nat.le_of_ble_eq_true rfl) (Nat.le_of_ble_eq_true rfl) (by omega) (by omega) dX1_roomForFiles_23 (fun z1 hz1 => ?_)
    refine e_iret (rm := ({ frames := 2, cells := 0, slots := 0, locals := 42 } : Room)) (v := iI (z1)) E hL dX1_roomForFiles_26 ?_
    exact RE_i (by first | (simp only [roomN, hop]; rw [if_neg (by omega)]; omega) | (simp only [roomN, hop]; omega))

set_option maxHeartbeats 4000000 in
set_option maxRecDepth 100000 in
theorem c_X1_sessionsOfOneFile (G : GG) (l : Launch) (b : Nat) (fl : Nat → Option Fil) (σ : St) (hI : Inv σ) (x : Nat) (hx : 1 ≤ x ∧ x ≤ 40) : Ct G l yX1_sessionsOfOneFile cX1_sessionsOfOneFile 7 (some .int) ({ frames := 2, cells := 0, slots := 0, locals := 42 } : Room) [.ref (b), .int (iI ((x : Int)))] (fun H => DiscAt G b fl σ H) (RE (iI (eachN σ x))) := by
  refine Ct.of (by decide +kernel) (Nat.le_of_ble_eq_true rfl) ?_
  intro p e s m args below meth c ls E hnm hP hl
  have i1 := hI.mn12
  have i2 := hI.nx240
  have i3 := hI.s0b
  have i4 := hI.s1b
  have hl : lv_has ls 7 [(0, .ref (b)), (1, .int (iI ((x : Int))))] := hl
  have hL : Lk G [] := Lk.nil
  generalize ([] : List Loc) = locs at hL ⊢
  refine r_const E dX1_sessionsOfOneFile_0 ?_
  refine lv_istore_n (lv' := [(2, .int (iI (0))), (0, .ref (b)), (1, .int (iI ((x : Int))))]) E.1 E.2.1 dX1_sessionsOfOneFile_1 rfl hl (by decide) rfl (fun ls hl => ?_)
  refine lv_aload_n E.1 E.2.1 dX1_sessionsOfOneFile_2 rfl (lv_at hl 1 rfl) ?_
  refine m_get E hP.1 fw_X1_33 rfl dX1_sessionsOfOneFile_3 ?_
  refine lv_istore_n (lv' := [(3, .int (iI ((nx σ : Int)))), (2, .int (iI (0))), (0, .ref (b)), (1, .int (iI ((x : Int))))]) E.1 E.2.1 dX1_sessionsOfOneFile_6 rfl hl (by decide) rfl (fun ls hl => ?_)
  refine lv_aload_n E.1 E.2.1 dX1_sessionsOfOneFile_7 rfl (lv_at hl 2 rfl) ?_
  refine kVQE (As := []) E cw_X1_43 (c_X1_openSession G l b fl σ hI) hP.1 ⟨_, _, rfl⟩ hP hL hl.1 rfl rfl (Nat.le_of_ble_eq_true rfl) ⟨Nat.le_of_ble_eq_true rfl, Nat.le_of_ble_eq_true rfl⟩ ⟨rfl, rfl⟩ ⟨Nat.le_of_ble_eq_true rfl, Nat.le_of_ble_eq_true rfl⟩ dX1_sessionsOfOneFile_8 (fun locs hL => ?_)
  rcases hop : opn σ with _ | n
  · refine lv_astoreN (lv' := [(4, .null), (3, .int (iI ((nx σ : Int)))), (2, .int (iI (0))), (0, .ref (b)), (1, .int (iI ((x : Int))))]) E.1 E.2.1 dX1_sessionsOfOneFile_11 hl (by decide) rfl (fun ls hl => ?_)
    refine lv_aloadN E.1 E.2.1 dX1_sessionsOfOneFile_13 (lv_at hl 0 rfl) ?_
    refine lv_ifnullN (tgt := 39) E.1 E.2.1 dX1_sessionsOfOneFile_15 (by decide) ?_
    refine lv_aload_n E.1 E.2.1 dX1_sessionsOfOneFile_39 rfl (lv_at hl 3 rfl) ?_
    refine m_get E hP.1 fw_X1_25 rfl dX1_sessionsOfOneFile_40 ?_
    refine r_const E dX1_sessionsOfOneFile_43 ?_
    refine r_iald E hP.2.2.2.2.1 (0) rfl (by decide) (by decide) dX1_sessionsOfOneFile_44 ?_
    rw [if_pos rfl]
    refine lv_iload_n E.1 E.2.1 dX1_sessionsOfOneFile_45 rfl (lv_at hl 4 rfl) ?_
    refine r_add E dX1_sessionsOfOneFile_46 ?_
    refine lv_aload_n E.1 E.2.1 dX1_sessionsOfOneFile_47 rfl (lv_at hl 3 rfl) ?_
    refine m_get E hP.1 fw_X1_25 rfl dX1_sessionsOfOneFile_48 ?_
    refine r_const E dX1_sessionsOfOneFile_51 ?_
    refine r_iald E hP.2.2.2.2.1 (1) rfl (by decide) (by decide) dX1_sessionsOfOneFile_52 ?_
    rw [if_neg (by decide)]
    refine r_add E dX1_sessionsOfOneFile_53 ?_
    refine lv_istore (lv' := [(5, .int (iI (((s0 σ : Int) + (x : Int)) + (s1 σ : Int)))), (4, .null), (3, .int (iI ((nx σ : Int)))), (2, .int (iI (0))), (0, .ref (b)), (1, .int (iI ((x : Int))))]) E.1 E.2.1 dX1_sessionsOfOneFile_54 hl (by decide) rfl (fun ls hl => ?_)
    refine lv_aload_n E.1 E.2.1 dX1_sessionsOfOneFile_56 rfl (lv_at hl 4 rfl) ?_
    refine m_get E hP.1 fw_X1_29 rfl dX1_sessionsOfOneFile_57 ?_
    refine lv_istore (lv' := [(6, .int (iI ((mn σ : Int)))), (5, .int (iI (((s0 σ : Int) + (x : Int)) + (s1 σ : Int)))), (4, .null), (3, .int (iI ((nx σ : Int)))), (2, .int (iI (0))), (0, .ref (b)), (1, .int (iI ((x : Int))))]) E.1 E.2.1 dX1_sessionsOfOneFile_60 hl (by decide) rfl (fun ls hl => ?_)
    have LP62 : ∀ (kin62 : Nat) (nb en fl1 : Nat) (u v q : Int) (ls : Array Slot) (locs : List Loc) (h1 : nb ≤ 12) (h2 : en ≤ 240) (hu : u = (nb : Int)) (hv : v = (en : Int)) (hq : q = (fl1 : Int)) (hT : fl1 + min (12 - nb) ((240 - en) / (x + s0 σ + s1 σ)) = eachN σ x) (hkin62 : 12 - nb = kin62) (hl : lv_has ls 7 [(6, .int (iI (u))), (3, .int (iI (v))), (2, .int (iI (q))), (5, .int (iI ((s0 σ : Int) + (x : Int) + (s1 σ : Int)))), (0, .ref (b))]) (hL : Lk G locs), W p l e ({ frames := 2, cells := 0, slots := 0, locals := 42 } : Room) s m args below meth c s.heap locs 0 0 (QQ G below args s ({ frames := 2, cells := 0, slots := 0, locals := 42 } : Room) (RE (iI (eachN σ x)))) (F0 m 62 ls []) := by
      intro kin62
      induction kin62 using Nat.strongRecOn with
      | ind kin62 ihin62 =>
        intro nb en fl1 u v q ls locs h1 h2 hu hv hq hT hkin62 hl hL
        refine lv_iload E.1 E.2.1 dX1_sessionsOfOneFile_62 (lv_at hl 0 rfl) ?_
        refine r_bipush E dX1_sessionsOfOneFile_64 (by decide) ?_
        refine r_icmp_ge (tgt := 93) E dX1_sessionsOfOneFile_66 (by decide) (by omega) (by omega) (fun c66 => ?_) (fun c66 => ?_)
        · refine lv_iload_n E.1 E.2.1 dX1_sessionsOfOneFile_93 rfl (lv_at hl 2 rfl) ?_
          refine e_iret (rm := ({ frames := 2, cells := 0, slots := 0, locals := 42 } : Room)) (v := iI (q)) E hL dX1_sessionsOfOneFile_94 ?_
          refine RE_i ?_
          rw [hq, ← hT]
          have h9 : min (12 - nb) ((240 - en) / (x + s0 σ + s1 σ)) = 0 := by
            first
            | (rw [show 12 - nb = 0 by omega]; exact Nat.zero_min _)
            | (rw [Nat.div_eq_of_lt (a := 240 - en) (b := x + s0 σ + s1 σ) (by omega)]; exact Nat.min_zero _)
          rw [h9]
          rfl
        · refine lv_iload_n E.1 E.2.1 dX1_sessionsOfOneFile_69 rfl (lv_at hl 1 rfl) ?_
          refine lv_iload E.1 E.2.1 dX1_sessionsOfOneFile_70 (lv_at hl 3 rfl) ?_
          refine r_add E dX1_sessionsOfOneFile_72 ?_
          refine r_sipush E dX1_sessionsOfOneFile_73 (by decide) ?_
          refine r_icmp_gt (tgt := 93) E dX1_sessionsOfOneFile_76 (by decide) (by omega) (by omega) (fun c76 => ?_) (fun c76 => ?_)
          · refine lv_iload_n E.1 E.2.1 dX1_sessionsOfOneFile_93 rfl (lv_at hl 2 rfl) ?_
            refine e_iret (rm := ({ frames := 2, cells := 0, slots := 0, locals := 42 } : Room)) (v := iI (q)) E hL dX1_sessionsOfOneFile_94 ?_
            refine RE_i ?_
            rw [hq, ← hT]
            have h9 : min (12 - nb) ((240 - en) / (x + s0 σ + s1 σ)) = 0 := by
              first
              | (rw [show 12 - nb = 0 by omega]; exact Nat.zero_min _)
              | (rw [Nat.div_eq_of_lt (a := 240 - en) (b := x + s0 σ + s1 σ) (by omega)]; exact Nat.min_zero _)
            rw [h9]
            rfl
          · refine lv_iload_n E.1 E.2.1 dX1_sessionsOfOneFile_79 rfl (lv_at hl 1 rfl) ?_
            refine lv_iload E.1 E.2.1 dX1_sessionsOfOneFile_80 (lv_at hl 3 rfl) ?_
            refine r_add E dX1_sessionsOfOneFile_82 ?_
            refine lv_istore_n (lv' := [(3, .int (iI (v + ((s0 σ : Int) + (x : Int) + (s1 σ : Int))))), (6, .int (iI (u))), (2, .int (iI (q))), (5, .int (iI ((s0 σ : Int) + (x : Int) + (s1 σ : Int)))), (0, .ref (b))]) E.1 E.2.1 dX1_sessionsOfOneFile_83 rfl hl (by decide) rfl (fun ls hl => ?_)
            refine r_inc (lv' := [(2, .int (iI (q + 1))), (3, .int (iI (v + ((s0 σ : Int) + (x : Int) + (s1 σ : Int))))), (6, .int (iI (u))), (5, .int (iI ((s0 σ : Int) + (x : Int) + (s1 σ : Int)))), (0, .ref (b))]) E dX1_sessionsOfOneFile_84 hl (k := 2) rfl (by decide) rfl (fun ls hl => ?_)
            refine r_inc (lv' := [(6, .int (iI (u + 1))), (2, .int (iI (q + 1))), (3, .int (iI (v + ((s0 σ : Int) + (x : Int) + (s1 σ : Int))))), (5, .int (iI ((s0 σ : Int) + (x : Int) + (s1 σ : Int)))), (0, .ref (b))]) E dX1_sessionsOfOneFile_87 hl (k := 2) rfl (by decide) rfl (fun ls hl => ?_)
            refine lv_goto (tgt := 62) E.1 E.2.1 dX1_sessionsOfOneFile_90 (by decide) ?_
            refine ihin62 _ ?_ (nb + 1) (en + (x + s0 σ + s1 σ)) (fl1 + 1) (u + 1) (v + ((s0 σ : Int) + (x : Int) + (s1 σ : Int))) (q + 1) ls locs ?_ ?_ ?_ ?_ ?_ ?_ rfl (lv_sub hl [0, 2, 1, 3, 4] rfl) hL
            · omega
            · omega
            · omega
            · omega
            · omega
            · omega
            · rw [← hT, Nat.div_eq_sub_div (a := 240 - en) (b := x + s0 σ + s1 σ) (by omega) (by omega), show 240 - en - (x + s0 σ + s1 σ) = 240 - (en + (x + s0 σ + s1 σ)) by omega]
              omega
    refine LP62 _ (mn σ) (nx σ) 0 ((mn σ : Int)) ((nx σ : Int)) 0 ls locs ?_ ?_ ?_ ?_ ?_ ?_ rfl (lv_sub hl [0, 3, 4, 1, 5] rfl) hL
    · omega
    · omega
    · omega
    · omega
    · omega
    · simp only [eachN, hop]; omega
  · have hn := (opn_some hop).1
    have hn0 := (opn_some hop).2
    have hrow := hI.row (n := n) (by omega)
    obtain ⟨t_, ho_, hr_, ht_⟩ := hP.live (n := n) (by omega) (by omega)
    refine lv_astore (lv' := [(4, .ref (b + 5 + 2 * n)), (3, .int (iI ((nx σ : Int)))), (2, .int (iI (0))), (0, .ref (b)), (1, .int (iI ((x : Int))))]) E.1 E.2.1 dX1_sessionsOfOneFile_11 hl (by decide) rfl (fun ls hl => ?_)
    refine lv_aload E.1 E.2.1 dX1_sessionsOfOneFile_13 (lv_at hl 0 rfl) ?_
    refine lv_ifnull E.1 E.2.1 dX1_sessionsOfOneFile_15 ?_
    refine lv_iload_n E.1 E.2.1 dX1_sessionsOfOneFile_18 rfl (lv_at hl 1 rfl) ?_
    refine lv_iload_n E.1 E.2.1 dX1_sessionsOfOneFile_19 rfl (lv_at hl 4 rfl) ?_
    refine lv_aload E.1 E.2.1 dX1_sessionsOfOneFile_20 (lv_at hl 0 rfl) ?_
    refine m_get E ho_ fw_X1_122 rfl dX1_sessionsOfOneFile_22 ?_
    refine r_add E dX1_sessionsOfOneFile_25 ?_
    refine r_add E dX1_sessionsOfOneFile_26 ?_
    refine lv_istore_n (lv' := [(3, .int (iI ((nx σ : Int) + ((x : Int) + (se σ n 4 : Int))))), (4, .ref (b + 5 + 2 * n)), (2, .int (iI (0))), (0, .ref (b)), (1, .int (iI ((x : Int))))]) E.1 E.2.1 dX1_sessionsOfOneFile_27 rfl hl (by decide) rfl (fun ls hl => ?_)
    refine lv_iload_n E.1 E.2.1 dX1_sessionsOfOneFile_28 rfl (lv_at hl 0 rfl) ?_
    refine r_sipush E dX1_sessionsOfOneFile_29 (by decide) ?_
    refine r_icmp_le (tgt := 37) E dX1_sessionsOfOneFile_32 (by decide) (by omega) (by omega) (fun c32 => ?_) (fun c32 => ?_)
    · refine r_const E dX1_sessionsOfOneFile_37 ?_
      refine lv_istore_n (lv' := [(2, .int (iI (1))), (3, .int (iI ((nx σ : Int) + ((x : Int) + (se σ n 4 : Int))))), (4, .ref (b + 5 + 2 * n)), (0, .ref (b)), (1, .int (iI ((x : Int))))]) E.1 E.2.1 dX1_sessionsOfOneFile_38 rfl hl (by decide) rfl (fun ls hl => ?_)
      refine lv_aload_n E.1 E.2.1 dX1_sessionsOfOneFile_39 rfl (lv_at hl 3 rfl) ?_
      refine m_get E hP.1 fw_X1_25 rfl dX1_sessionsOfOneFile_40 ?_
      refine r_const E dX1_sessionsOfOneFile_43 ?_
      refine r_iald E hP.2.2.2.2.1 (0) rfl (by decide) (by decide) dX1_sessionsOfOneFile_44 ?_
      rw [if_pos rfl]
      refine lv_iload_n E.1 E.2.1 dX1_sessionsOfOneFile_45 rfl (lv_at hl 4 rfl) ?_
      refine r_add E dX1_sessionsOfOneFile_46 ?_
      refine lv_aload_n E.1 E.2.1 dX1_sessionsOfOneFile_47 rfl (lv_at hl 3 rfl) ?_
      refine m_get E hP.1 fw_X1_25 rfl dX1_sessionsOfOneFile_48 ?_
      refine r_const E dX1_sessionsOfOneFile_51 ?_
      refine r_iald E hP.2.2.2.2.1 (1) rfl (by decide) (by decide) dX1_sessionsOfOneFile_52 ?_
      rw [if_neg (by decide)]
      refine r_add E dX1_sessionsOfOneFile_53 ?_
      refine lv_istore (lv' := [(5, .int (iI (((s0 σ : Int) + (x : Int)) + (s1 σ : Int)))), (2, .int (iI (1))), (3, .int (iI ((nx σ : Int) + ((x : Int) + (se σ n 4 : Int))))), (4, .ref (b + 5 + 2 * n)), (0, .ref (b)), (1, .int (iI ((x : Int))))]) E.1 E.2.1 dX1_sessionsOfOneFile_54 hl (by decide) rfl (fun ls hl => ?_)
      refine lv_aload_n E.1 E.2.1 dX1_sessionsOfOneFile_56 rfl (lv_at hl 4 rfl) ?_
      refine m_get E hP.1 fw_X1_29 rfl dX1_sessionsOfOneFile_57 ?_
      refine lv_istore (lv' := [(6, .int (iI ((mn σ : Int)))), (5, .int (iI (((s0 σ : Int) + (x : Int)) + (s1 σ : Int)))), (2, .int (iI (1))), (3, .int (iI ((nx σ : Int) + ((x : Int) + (se σ n 4 : Int))))), (4, .ref (b + 5 + 2 * n)), (0, .ref (b)), (1, .int (iI ((x : Int))))]) E.1 E.2.1 dX1_sessionsOfOneFile_60 hl (by decide) rfl (fun ls hl => ?_)
      have LP62 : ∀ (kin62 : Nat) (nb en fl1 : Nat) (u v q : Int) (ls : Array Slot) (locs : List Loc) (h1 : nb ≤ 12) (h2 : en ≤ 240) (hu : u = (nb : Int)) (hv : v = (en : Int)) (hq : q = (fl1 : Int)) (hT : fl1 + min (12 - nb) ((240 - en) / (x + s0 σ + s1 σ)) = eachN σ x) (hkin62 : 12 - nb = kin62) (hl : lv_has ls 7 [(6, .int (iI (u))), (3, .int (iI (v))), (2, .int (iI (q))), (5, .int (iI ((s0 σ : Int) + (x : Int) + (s1 σ : Int)))), (0, .ref (b))]) (hL : Lk G locs), W p l e ({ frames := 2, cells := 0, slots := 0, locals := 42 } : Room) s m args below meth c s.heap locs 0 0 (QQ G below args s ({ frames := 2, cells := 0, slots := 0, locals := 42 } : Room) (RE (iI (eachN σ x)))) (F0 m 62 ls []) := by
        intro kin62
        induction kin62 using Nat.strongRecOn with
        | ind kin62 ihin62 =>
          intro nb en fl1 u v q ls locs h1 h2 hu hv hq hT hkin62 hl hL
          refine lv_iload E.1 E.2.1 dX1_sessionsOfOneFile_62 (lv_at hl 0 rfl) ?_
          refine r_bipush E dX1_sessionsOfOneFile_64 (by decide) ?_
          refine r_icmp_ge (tgt := 93) E dX1_sessionsOfOneFile_66 (by decide) (by omega) (by omega) (fun c66 => ?_) (fun c66 => ?_)
          · refine lv_iload_n E.1 E.2.1 dX1_sessionsOfOneFile_93 rfl (lv_at hl 2 rfl) ?_
            refine e_iret (rm := ({ frames := 2, cells := 0, slots := 0, locals := 42 } : Room)) (v := iI (q)) E hL dX1_sessionsOfOneFile_94 ?_
            refine RE_i ?_
            rw [hq, ← hT]
            have h9 : min (12 - nb) ((240 - en) / (x + s0 σ + s1 σ)) = 0 := by
              first
              | (rw [show 12 - nb = 0 by omega]; exact Nat.zero_min _)
              | (rw [Nat.div_eq_of_lt (a := 240 - en) (b := x + s0 σ + s1 σ) (by omega)]; exact Nat.min_zero _)
            rw [h9]
            rfl
          · refine lv_iload_n E.1 E.2.1 dX1_sessionsOfOneFile_69 rfl (lv_at hl 1 rfl) ?_
            refine lv_iload E.1 E.2.1 dX1_sessionsOfOneFile_70 (lv_at hl 3 rfl) ?_
            refine r_add E dX1_sessionsOfOneFile_72 ?_
            refine r_sipush E dX1_sessionsOfOneFile_73 (by decide) ?_
            refine r_icmp_gt (tgt := 93) E dX1_sessionsOfOneFile_76 (by decide) (by omega) (by omega) (fun c76 => ?_) (fun c76 => ?_)
            · refine lv_iload_n E.1 E.2.1 dX1_sessionsOfOneFile_93 rfl (lv_at hl 2 rfl) ?_
              refine e_iret (rm := ({ frames := 2, cells := 0, slots := 0, locals := 42 } : Room)) (v := iI (q)) E hL dX1_sessionsOfOneFile_94 ?_
              refine RE_i ?_
              rw [hq, ← hT]
              have h9 : min (12 - nb) ((240 - en) / (x + s0 σ + s1 σ)) = 0 := by
                first
                | (rw [show 12 - nb = 0 by omega]; exact Nat.zero_min _)
                | (rw [Nat.div_eq_of_lt (a := 240 - en) (b := x + s0 σ + s1 σ) (by omega)]; exact Nat.min_zero _)
              rw [h9]
              rfl
            · refine lv_iload_n E.1 E.2.1 dX1_sessionsOfOneFile_79 rfl (lv_at hl 1 rfl) ?_
              refine lv_iload E.1 E.2.1 dX1_sessionsOfOneFile_80 (lv_at hl 3 rfl) ?_
              refine r_add E dX1_sessionsOfOneFile_82 ?_
              refine lv_istore_n (lv' := [(3, .int (iI (v + ((s0 σ : Int) + (x : Int) + (s1 σ : Int))))), (6, .int (iI (u))), (2, .int (iI (q))), (5, .int (iI ((s0 σ : Int) + (x : Int) + (s1 σ : Int)))), (0, .ref (b))]) E.1 E.2.1 dX1_sessionsOfOneFile_83 rfl hl (by decide) rfl (fun ls hl => ?_)
              refine r_inc (lv' := [(2, .int (iI (q + 1))), (3, .int (iI (v + ((s0 σ : Int) + (x : Int) + (s1 σ : Int))))), (6, .int (iI (u))), (5, .int (iI ((s0 σ : Int) + (x : Int) + (s1 σ : Int)))), (0, .ref (b))]) E dX1_sessionsOfOneFile_84 hl (k := 2) rfl (by decide) rfl (fun ls hl => ?_)
              refine r_inc (lv' := [(6, .int (iI (u + 1))), (2, .int (iI (q + 1))), (3, .int (iI (v + ((s0 σ : Int) + (x : Int) + (s1 σ : Int))))), (5, .int (iI ((s0 σ : Int) + (x : Int) + (s1 σ : Int)))), (0, .ref (b))]) E dX1_sessionsOfOneFile_87 hl (k := 2) rfl (by decide) rfl (fun ls hl => ?_)
              refine lv_goto (tgt := 62) E.1 E.2.1 dX1_sessionsOfOneFile_90 (by decide) ?_
              refine ihin62 _ ?_ (nb + 1) (en + (x + s0 σ + s1 σ)) (fl1 + 1) (u + 1) (v + ((s0 σ : Int) + (x : Int) + (s1 σ : Int))) (q + 1) ls locs ?_ ?_ ?_ ?_ ?_ ?_ rfl (lv_sub hl [0, 2, 1, 3, 4] rfl) hL
              · omega
              · omega
              · omega
              · omega
              · omega
              · omega
              · rw [← hT, Nat.div_eq_sub_div (a := 240 - en) (b := x + s0 σ + s1 σ) (by omega) (by omega), show 240 - en - (x + s0 σ + s1 σ) = 240 - (en + (x + s0 σ + s1 σ)) by omega]
                omega
      refine LP62 _ (mn σ) (nx σ + x + se σ n 4) 1 ((mn σ : Int)) ((nx σ : Int) + ((x : Int) + (se σ n 4 : Int))) 1 ls locs ?_ ?_ ?_ ?_ ?_ ?_ rfl (lv_sub hl [0, 3, 2, 1, 5] rfl) hL
      · omega
      · omega
      · omega
      · omega
      · omega
      · simp only [eachN, hop]; rw [if_neg (by omega)]
    · refine r_const E dX1_sessionsOfOneFile_35 ?_
      refine e_iret (rm := ({ frames := 2, cells := 0, slots := 0, locals := 42 } : Room)) (v := iI (0)) E hL dX1_sessionsOfOneFile_36 ?_
      exact RE_i (by simp only [eachN, hop]; rw [if_pos (by omega)]; rfl)

set_option maxHeartbeats 4000000 in
set_option maxRecDepth 100000 in
theorem c_X1_moreHarmful (G : GG) (l : Launch) (b fb : Nat) (fl : Nat → Option Fil) (σ : St) (hI : Inv σ) (x y : Nat) (hx : x < 240) (hy : y < 240) : Ct G l yX1_moreHarmful cX1_moreHarmful 5 (some .int) ({ frames := 5, cells := 0, slots := 0, locals := 119 } : Room) [.ref (b), .int (iI ((x : Int))), .int (iI ((y : Int)))] (fun H => DiscAt G b fl σ H ∧ FlAt G fb fl H) (RE (iI (mh (hurtCnt σ) x y))) := by
  refine Ct.of (by decide +kernel) (Nat.le_of_ble_eq_true rfl) ?_
  intro p e s m args below meth c ls E hnm hP hl
  have i1 := hI.mn12
  have i2 := hI.nx240
  obtain ⟨hP, hFl⟩ := hP
  have hl : lv_has ls 5 [(0, .ref (b)), (1, .int (iI ((x : Int)))), (2, .int (iI ((y : Int))))] := hl
  have hL : Lk G [] := Lk.nil
  generalize ([] : List Loc) = locs at hL ⊢
  refine lv_aload_n E.1 E.2.1 dX1_moreHarmful_0 rfl (lv_at hl 0 rfl) ?_
  refine lv_iload_n E.1 E.2.1 dX1_moreHarmful_1 rfl (lv_at hl 1 rfl) ?_
  refine kVRE (As := [.int (iI ((x : Int)))]) E cw_X1_150 (c_X1_countIntactIf G l b fb fl σ hI ((x : Int)) (by unfold okI; omega)) hP.1 ⟨_, _, rfl⟩ ⟨hP, hFl⟩ hL hl.1 rfl rfl (Nat.le_of_ble_eq_true rfl) ⟨Nat.le_of_ble_eq_true rfl, Nat.le_of_ble_eq_true rfl⟩ ⟨rfl, rfl⟩ ⟨Nat.le_of_ble_eq_true rfl, Nat.le_of_ble_eq_true rfl⟩ dX1_moreHarmful_2 (fun locs hL => ?_)
  refine lv_istore_n (lv' := [(3, .int (iI ((cntIntact σ (dmH σ ((x : Int))) : Int)))), (0, .ref (b)), (1, .int (iI ((x : Int)))), (2, .int (iI ((y : Int))))]) E.1 E.2.1 dX1_moreHarmful_5 rfl hl (by decide) rfl (fun ls hl => ?_)
  refine lv_aload_n E.1 E.2.1 dX1_moreHarmful_6 rfl (lv_at hl 1 rfl) ?_
  refine lv_iload_n E.1 E.2.1 dX1_moreHarmful_7 rfl (lv_at hl 3 rfl) ?_
  refine kVRE (As := [.int (iI ((y : Int)))]) E cw_X1_150 (c_X1_countIntactIf G l b fb fl σ hI ((y : Int)) (by unfold okI; omega)) hP.1 ⟨_, _, rfl⟩ ⟨hP, hFl⟩ hL hl.1 rfl rfl (Nat.le_of_ble_eq_true rfl) ⟨Nat.le_of_ble_eq_true rfl, Nat.le_of_ble_eq_true rfl⟩ ⟨rfl, rfl⟩ ⟨Nat.le_of_ble_eq_true rfl, Nat.le_of_ble_eq_true rfl⟩ dX1_moreHarmful_8 (fun locs hL => ?_)
  refine lv_istore (lv' := [(4, .int (iI ((cntIntact σ (dmH σ ((y : Int))) : Int)))), (3, .int (iI ((cntIntact σ (dmH σ ((x : Int))) : Int)))), (0, .ref (b)), (1, .int (iI ((x : Int)))), (2, .int (iI ((y : Int))))]) E.1 E.2.1 dX1_moreHarmful_11 hl (by decide) rfl (fun ls hl => ?_)
  refine lv_iload_n E.1 E.2.1 dX1_moreHarmful_13 rfl (lv_at hl 1 rfl) ?_
  refine lv_iload E.1 E.2.1 dX1_moreHarmful_14 (lv_at hl 0 rfl) ?_
  refine r_icmp_ne (tgt := 25) E dX1_moreHarmful_16 (by decide) (by have := cntIntact_le σ (dmH σ x); omega) (by have := cntIntact_le σ (dmH σ y); omega) (fun c16 => ?_) (fun c16 => ?_)
  · refine lv_iload_n E.1 E.2.1 dX1_moreHarmful_25 rfl (lv_at hl 1 rfl) ?_
    refine lv_iload E.1 E.2.1 dX1_moreHarmful_26 (lv_at hl 0 rfl) ?_
    refine r_icmp_ge (tgt := 35) E dX1_moreHarmful_28 (by decide) (by have := cntIntact_le σ (dmH σ x); omega) (by have := cntIntact_le σ (dmH σ y); omega) (fun c28 => ?_) (fun c28 => ?_)
    · refine lv_iload_n E.1 E.2.1 dX1_moreHarmful_35 rfl (lv_at hl 4 rfl) ?_
      refine e_iret (rm := ({ frames := 5, cells := 0, slots := 0, locals := 119 } : Room)) (v := iI ((y : Int))) E hL dX1_moreHarmful_36 ?_
      refine RE_i ?_
      unfold mh
      show _ = ((if cntIntact σ (dmH σ x) = cntIntact σ (dmH σ y) then min x y else if cntIntact σ (dmH σ x) < cntIntact σ (dmH σ y) then x else y : Nat) : Int)
      split <;> (try split) <;> omega
    · refine lv_iload_n E.1 E.2.1 dX1_moreHarmful_31 rfl (lv_at hl 3 rfl) ?_
      refine lv_goto (tgt := 36) E.1 E.2.1 dX1_moreHarmful_32 (by decide) ?_
      refine e_iret (rm := ({ frames := 5, cells := 0, slots := 0, locals := 119 } : Room)) (v := iI ((x : Int))) E hL dX1_moreHarmful_36 ?_
      refine RE_i ?_
      unfold mh
      show _ = ((if cntIntact σ (dmH σ x) = cntIntact σ (dmH σ y) then min x y else if cntIntact σ (dmH σ x) < cntIntact σ (dmH σ y) then x else y : Nat) : Int)
      split <;> (try split) <;> omega
  · refine lv_iload_n E.1 E.2.1 dX1_moreHarmful_19 rfl (lv_at hl 3 rfl) ?_
    refine lv_iload_n E.1 E.2.1 dX1_moreHarmful_20 rfl (lv_at hl 4 rfl) ?_
    refine r_min E ml_X1_125 hl.1 (Nat.le_of_ble_eq_true rfl) (Nat.le_of_ble_eq_true rfl) (Nat.le_of_ble_eq_true rfl) (Nat.le_of_ble_eq_true rfl) (by omega) (by omega) dX1_moreHarmful_21 (fun z1 hz1 => ?_)
    refine e_iret (rm := ({ frames := 5, cells := 0, slots := 0, locals := 119 } : Room)) (v := iI (z1)) E hL dX1_moreHarmful_24 ?_
    refine RE_i ?_
    unfold mh
    show _ = ((if cntIntact σ (dmH σ x) = cntIntact σ (dmH σ y) then min x y else if cntIntact σ (dmH σ x) < cntIntact σ (dmH σ y) then x else y : Nat) : Int)
    split <;> (try split) <;> omega

set_option maxHeartbeats 4000000 in
set_option maxRecDepth 100000 in
theorem c_X1_mostHarmfulSector (G : GG) (l : Launch) (b fb : Nat) (fl : Nat → Option Fil) (σ : St) (hI : Inv σ) : Ct G l yX1_mostHarmfulSector cX1_mostHarmfulSector 5 (some .int) ({ frames := 6, cells := 0, slots := 0, locals := 143 } : Room) [.ref (b)] (fun H => DiscAt G b fl σ H ∧ FlAt G fb fl H) (RE (iI (worstH σ))) := by
  refine Ct.of (by decide +kernel) (Nat.le_of_ble_eq_true rfl) ?_
  intro p e s m args below meth c ls E hnm hP hl
  have i1 := hI.mn12
  have i2 := hI.nx240
  obtain ⟨hP, hFl⟩ := hP
  have hl : lv_has ls 5 [(0, .ref (b))] := hl
  have hL : Lk G [] := Lk.nil
  generalize ([] : List Loc) = locs at hL ⊢
  refine lv_aload_n E.1 E.2.1 dX1_mostHarmfulSector_0 rfl (lv_at hl 0 rfl) ?_
  refine lv_aload_n E.1 E.2.1 dX1_mostHarmfulSector_1 rfl (lv_at hl 0 rfl) ?_
  refine r_const E dX1_mostHarmfulSector_2 ?_
  refine kVRE (As := [.int (iI ((-1)))]) E cw_X1_47 (c_X1_validNumberIf G l b fl σ hI ((-1)) (by unfold okI; omega)) hP.1 ⟨_, _, rfl⟩ hP hL hl.1 rfl rfl (Nat.le_of_ble_eq_true rfl) ⟨Nat.le_of_ble_eq_true rfl, Nat.le_of_ble_eq_true rfl⟩ ⟨rfl, rfl⟩ ⟨Nat.le_of_ble_eq_true rfl, Nat.le_of_ble_eq_true rfl⟩ dX1_mostHarmfulSector_3 (fun locs hL => ?_)
  rw [dmH_m1 (σ := σ) (h := -1) (by decide)]
  rcases hv : validD σ (dm σ) with _ | n
  · rw [show oI none = -6 from rfl]
    refine kVQE (As := [.int (iI ((-6)))]) E cw_X1_51 (c_sessionAt_n G l b fl σ hI ((-6)) (by unfold okI; omega) (by omega)) hP.1 ⟨_, _, rfl⟩ hP hL hl.1 rfl rfl (Nat.le_of_ble_eq_true rfl) ⟨Nat.le_of_ble_eq_true rfl, Nat.le_of_ble_eq_true rfl⟩ ⟨rfl, rfl⟩ ⟨Nat.le_of_ble_eq_true rfl, Nat.le_of_ble_eq_true rfl⟩ dX1_mostHarmfulSector_6 (fun locs hL => ?_)
    refine lv_astore_nN (lv' := [(1, .null), (0, .ref (b))]) E.1 E.2.1 dX1_mostHarmfulSector_9 rfl hl (by decide) rfl (fun ls hl => ?_)
    refine lv_aload_nN E.1 E.2.1 dX1_mostHarmfulSector_10 rfl (lv_at hl 0 rfl) ?_
    refine lv_ifnonnullN E.1 E.2.1 dX1_mostHarmfulSector_11 ?_
    refine r_const E dX1_mostHarmfulSector_14 ?_
    refine e_iret (rm := ({ frames := 6, cells := 0, slots := 0, locals := 143 } : Room)) (v := iI (0)) E hL dX1_mostHarmfulSector_15 ?_
    exact RE_i (by simp only [worstH, hv]; rfl)
  · have hn := validD_lt hv
    rw [show oI (some n) = (n : Int) from rfl]
    obtain ⟨t_, ho_, hr_, ht_⟩ := hP.live (n := n) (by omega) (by omega)
    refine kVQE (As := [.int (iI ((n : Int)))]) E cw_X1_51 (c_sessionAt_s G l b fl σ hI n (by omega)) hP.1 ⟨_, _, rfl⟩ hP hL hl.1 rfl rfl (Nat.le_of_ble_eq_true rfl) ⟨Nat.le_of_ble_eq_true rfl, Nat.le_of_ble_eq_true rfl⟩ ⟨rfl, rfl⟩ ⟨Nat.le_of_ble_eq_true rfl, Nat.le_of_ble_eq_true rfl⟩ dX1_mostHarmfulSector_6 (fun locs hL => ?_)
    refine lv_astore_n (lv' := [(1, .ref (b + 5 + 2 * n)), (0, .ref (b))]) E.1 E.2.1 dX1_mostHarmfulSector_9 rfl hl (by decide) rfl (fun ls hl => ?_)
    refine lv_aload_n E.1 E.2.1 dX1_mostHarmfulSector_10 rfl (lv_at hl 0 rfl) ?_
    refine lv_ifnonnull (tgt := 16) E.1 E.2.1 dX1_mostHarmfulSector_11 (by decide) ?_
    have hrow := hI.row hn
    refine lv_aload_n E.1 E.2.1 dX1_mostHarmfulSector_16 rfl (lv_at hl 1 rfl) ?_
    refine r_const E dX1_mostHarmfulSector_17 ?_
    refine lv_aload_n E.1 E.2.1 dX1_mostHarmfulSector_18 rfl (lv_at hl 0 rfl) ?_
    refine m_get E ho_ fw_X1_108 rfl dX1_mostHarmfulSector_19 ?_
    refine kVRE (As := [.int (iI (0)), .int (iI ((se σ n 1 : Int)))]) E cw_X1_147 (c_X1_moreHarmful G l b fb fl σ hI (0) (se σ n 1) (by omega) (by omega)) hP.1 ⟨_, _, rfl⟩ ⟨hP, hFl⟩ hL hl.1 rfl rfl (Nat.le_of_ble_eq_true rfl) ⟨Nat.le_of_ble_eq_true rfl, Nat.le_of_ble_eq_true rfl⟩ ⟨rfl, rfl⟩ ⟨Nat.le_of_ble_eq_true rfl, Nat.le_of_ble_eq_true rfl⟩ dX1_mostHarmfulSector_22 (fun locs hL => ?_)
    refine lv_istore_n (lv' := [(2, .int (iI ((mh (hurtCnt σ) (0) (se σ n 1) : Int)))), (1, .ref (b + 5 + 2 * n)), (0, .ref (b))]) E.1 E.2.1 dX1_mostHarmfulSector_25 rfl hl (by decide) rfl (fun ls hl => ?_)
    refine r_const E dX1_mostHarmfulSector_26 ?_
    refine lv_istore_n (lv' := [(3, .int (iI (0))), (2, .int (iI ((mh (hurtCnt σ) (0) (se σ n 1) : Int)))), (1, .ref (b + 5 + 2 * n)), (0, .ref (b))]) E.1 E.2.1 dX1_mostHarmfulSector_27 rfl hl (by decide) rfl (fun ls hl => ?_)
    have LP28 : ∀ (kin28 : Nat) (k wk : Nat) (u v : Int) (ls : Array Slot) (locs : List Loc) (hk : k ≤ 20) (hwk : wk = mhF σ n k) (hu : u = (k : Int)) (hv2 : v = (wk : Int)) (hlt : wk < 240) (hkin28 : 20 - k = kin28) (hl : lv_has ls 5 [(3, .int (iI (u))), (2, .int (iI (v))), (1, .ref (b + 5 + 2 * n)), (0, .ref (b))]) (hL : Lk G locs), W p l e ({ frames := 6, cells := 0, slots := 0, locals := 143 } : Room) s m args below meth c s.heap locs 0 0 (QQ G below args s ({ frames := 6, cells := 0, slots := 0, locals := 143 } : Room) (RE (iI (worstH σ)))) (F0 m 28 ls []) := by
      intro kin28
      induction kin28 using Nat.strongRecOn with
      | ind kin28 ihin28 =>
        intro k wk u v ls locs hk hwk hu hv2 hlt hkin28 hl hL
        refine lv_iload_n E.1 E.2.1 dX1_mostHarmfulSector_28 rfl (lv_at hl 0 rfl) ?_
        refine r_bipush E dX1_mostHarmfulSector_29 (by decide) ?_
        refine r_icmp_ge (tgt := 63) E dX1_mostHarmfulSector_31 (by decide) (by omega) (by omega) (fun c31 => ?_) (fun c31 => ?_)
        · refine lv_iload_n E.1 E.2.1 dX1_mostHarmfulSector_63 rfl (lv_at hl 1 rfl) ?_
          refine e_iret (rm := ({ frames := 6, cells := 0, slots := 0, locals := 143 } : Room)) (v := iI (v)) E hL dX1_mostHarmfulSector_64 ?_
          exact RE_i (by rw [hv2, hwk, show k = 20 by omega]; simp only [worstH, hv])
        · subst hu
          subst hv2
          refine lv_aload_n E.1 E.2.1 dX1_mostHarmfulSector_34 rfl (lv_at hl 2 rfl) ?_
          refine lv_iload_n E.1 E.2.1 dX1_mostHarmfulSector_35 rfl (lv_at hl 0 rfl) ?_
          refine kVQE (As := [.int (iI ((k : Int)))]) E cw_X1_90 (c_fileOf_in G l (b + 5 + 2 * n) (k) (encR (se σ n)) t_ (by omega)) ho_ ⟨_, _, rfl⟩ ⟨ho_, hr_⟩ hL hl.1 rfl rfl (Nat.le_of_ble_eq_true rfl) ⟨Nat.le_of_ble_eq_true rfl, Nat.le_of_ble_eq_true rfl⟩ ⟨rfl, rfl⟩ ⟨Nat.le_of_ble_eq_true rfl, Nat.le_of_ble_eq_true rfl⟩ dX1_mostHarmfulSector_36 (fun locs hL => ?_)
          rcases htk : t_ (k) with _ | a
          · have he : none = en σ n (k) := by have h9 := (ht_ (k) (by omega)).1; rw [htk] at h9; exact h9
            refine lv_astoreN (lv' := [(4, .null), (3, .int (iI ((k : Int)))), (2, .int (iI ((wk : Int)))), (1, .ref (b + 5 + 2 * n)), (0, .ref (b))]) E.1 E.2.1 dX1_mostHarmfulSector_39 hl (by decide) rfl (fun ls hl => ?_)
            refine lv_aloadN E.1 E.2.1 dX1_mostHarmfulSector_41 (lv_at hl 0 rfl) ?_
            refine lv_ifnullN (tgt := 57) E.1 E.2.1 dX1_mostHarmfulSector_43 (by decide) ?_
            refine r_inc (lv' := [(3, .int (iI ((k : Int) + 1))), (4, .null), (2, .int (iI ((wk : Int)))), (1, .ref (b + 5 + 2 * n)), (0, .ref (b))]) E dX1_mostHarmfulSector_57 hl (k := 1) rfl (by decide) rfl (fun ls hl => ?_)
            refine lv_goto (tgt := 28) E.1 E.2.1 dX1_mostHarmfulSector_60 (by decide) ?_
            refine ihin28 _ ?_ (k + 1) (mhF σ n (k + 1)) ((k : Int) + 1) ((wk : Int)) ls locs ?_ ?_ ?_ ?_ ?_ rfl (lv_sub hl [0, 2, 3, 4] rfl) hL
            · omega
            · omega
            · rfl
            · omega
            · rw [hwk]; simp only [mhF, ← he]
            · simp only [mhF, ← he]; rw [← hwk]; omega
          · obtain ⟨f, hf⟩ := (ht_ (k) (by omega)).2 a htk
            have he : some f = en σ n (k) := by have h9 := (ht_ (k) (by omega)).1; rw [htk] at h9; rw [← h9]; exact hf.symm
            have hfb := hI.ent2 (n := n) (k := k) (by omega) (by omega) he.symm
            refine lv_astore (lv' := [(4, .ref (a)), (3, .int (iI ((k : Int)))), (2, .int (iI ((wk : Int)))), (1, .ref (b + 5 + 2 * n)), (0, .ref (b))]) E.1 E.2.1 dX1_mostHarmfulSector_39 hl (by decide) rfl (fun ls hl => ?_)
            refine lv_aload E.1 E.2.1 dX1_mostHarmfulSector_41 (lv_at hl 0 rfl) ?_
            refine lv_ifnull E.1 E.2.1 dX1_mostHarmfulSector_43 ?_
            refine lv_aload_n E.1 E.2.1 dX1_mostHarmfulSector_46 rfl (lv_at hl 4 rfl) ?_
            refine lv_iload_n E.1 E.2.1 dX1_mostHarmfulSector_47 rfl (lv_at hl 2 rfl) ?_
            refine lv_aload E.1 E.2.1 dX1_mostHarmfulSector_48 (lv_at hl 0 rfl) ?_
            refine m_get E (hFl.2 a f hf).2 fw_X1_87 rfl dX1_mostHarmfulSector_50 ?_
            refine kVRE (As := [.int (iI ((wk : Int))), .int (iI ((f.1 : Int)))]) E cw_X1_147 (c_X1_moreHarmful G l b fb fl σ hI (wk) (f.1) (by omega) (by omega)) hP.1 ⟨_, _, rfl⟩ ⟨hP, hFl⟩ hL hl.1 rfl rfl (Nat.le_of_ble_eq_true rfl) ⟨Nat.le_of_ble_eq_true rfl, Nat.le_of_ble_eq_true rfl⟩ ⟨rfl, rfl⟩ ⟨Nat.le_of_ble_eq_true rfl, Nat.le_of_ble_eq_true rfl⟩ dX1_mostHarmfulSector_53 (fun locs hL => ?_)
            refine lv_istore_n (lv' := [(2, .int (iI ((mh (hurtCnt σ) (wk) (f.1) : Int)))), (4, .ref (a)), (3, .int (iI ((k : Int)))), (1, .ref (b + 5 + 2 * n)), (0, .ref (b))]) E.1 E.2.1 dX1_mostHarmfulSector_56 rfl hl (by decide) rfl (fun ls hl => ?_)
            refine r_inc (lv' := [(3, .int (iI ((k : Int) + 1))), (2, .int (iI ((mh (hurtCnt σ) (wk) (f.1) : Int)))), (4, .ref (a)), (1, .ref (b + 5 + 2 * n)), (0, .ref (b))]) E dX1_mostHarmfulSector_57 hl (k := 2) rfl (by decide) rfl (fun ls hl => ?_)
            refine lv_goto (tgt := 28) E.1 E.2.1 dX1_mostHarmfulSector_60 (by decide) ?_
            refine ihin28 _ ?_ (k + 1) (mhF σ n (k + 1)) ((k : Int) + 1) ((mh (hurtCnt σ) (wk) (f.1) : Int)) ls locs ?_ ?_ ?_ ?_ ?_ rfl (lv_sub hl [0, 1, 3, 4] rfl) hL
            · omega
            · omega
            · rfl
            · omega
            · simp only [mhF, ← he, hwk]
            · simp only [mhF, ← he]; rw [← hwk]; exact mh_lt (by omega) (by omega)
    refine LP28 _ 0 (mhF σ n 0) 0 ((mh (hurtCnt σ) (0) (se σ n 1) : Int)) ls locs ?_ ?_ ?_ ?_ ?_ rfl (lv_sub hl [0, 1, 2, 3] rfl) hL
    · omega
    · rfl
    · rfl
    · rfl
    · exact mh_lt (by omega) (by omega)
end
section
/-! a disc put together again behind writes -/
def FrD (b n : Nat) (H H1 : Heap) : Prop := H1.size = H.size ∧ ∀ q, q ≠ b → q ≠ b + 2 → q ≠ b + 3 → q ≠ b + 4 → q ≠ b + 5 + 2 * n → q ≠ b + 5 + 2 * n + 1 → H1[q]? = H[q]?
theorem FrD.rf {b n : Nat} {H : Heap} : FrD b n H H := ⟨rfl, fun _ _ _ _ _ _ _ => rfl⟩
theorem FrD.one {b n a : Nat} {H H1 H2 : Heap} (h : FrD b n H H1) (h2 : Fr1 a H1 H2) (ha : a = b ∨ a = b + 2 ∨ a = b + 3 ∨ a = b + 4 ∨ a = b + 5 + 2 * n ∨ a = b + 5 + 2 * n + 1) : FrD b n H H2 :=
  ⟨h2.1.trans h.1, fun q a1 a2 a3 a4 a5 a6 => (h2.2 q (by omega)).trans (h.2 q a1 a2 a3 a4 a5 a6)⟩
theorem FrD.ses {b n lo hi : Nat} {H H1 H2 : Heap} (h : FrD b n H H1) (h2 : FrS lo hi H1 H2) (h3 : b + 5 + 2 * n ≤ lo) (h4 : hi ≤ b + 5 + 2 * n + 2) : FrD b n H H2 :=
  ⟨h2.1.trans h.1, fun q a1 a2 a3 a4 a5 a6 => (h2.2 q (by omega)).trans (h.2 q a1 a2 a3 a4 a5 a6)⟩
theorem FrD.S {b n : Nat} {H H1 : Heap} (h : FrD b n H H1) (hn : n < 12) : FrS b (b + 29) H H1 := ⟨h.1, fun q hq => h.2 q (by omega) (by omega) (by omega) (by omega) (by omega) (by omega)⟩
def FrE (b : Nat) (H H1 : Heap) : Prop := H1.size = H.size ∧ ∀ q, q ≠ b → q ≠ b + 2 → q ≠ b + 3 → q ≠ b + 4 → H1[q]? = H[q]?
theorem FrE.rf {b : Nat} {H : Heap} : FrE b H H := ⟨rfl, fun _ _ _ _ _ => rfl⟩
theorem FrE.one {b a : Nat} {H H1 H2 : Heap} (h : FrE b H H1) (h2 : Fr1 a H1 H2) (ha : a = b ∨ a = b + 2 ∨ a = b + 3 ∨ a = b + 4) : FrE b H H2 :=
  ⟨h2.1.trans h.1, fun q a1 a2 a3 a4 => (h2.2 q (by omega)).trans (h.2 q a1 a2 a3 a4)⟩
theorem FrE.S {b : Nat} {H H1 : Heap} (h : FrE b H H1) : FrS b (b + 29) H H1 := ⟨h.1, fun q hq => h.2 q (by omega) (by omega) (by omega) (by omega)⟩
theorem SesL.mk2 {G : GG} {a : Nat} {fl : Nat → Option Fil} {t : Nat → Option Nat} {tab : Nat → Option Fil} {row : Nat → Nat} {H : Heap} {x0 x1 x2 x3 x4 x5 : Int32} (ho : Ob G a 3 [.ref (a + 1), .int x0, .int x1, .int x2, .int x3, .int x4, .int x5] H) (hr : Ra G (a + 1) 4 20 t H) (ht : TabOk fl t tab) (e0 : x0 = iI (row 0)) (e1 : x1 = iI (row 1)) (e2 : x2 = iI ((row 1 : Int) + (row 2 : Int))) (e3 : x3 = iI (row 3)) (e4 : x4 = iI (row 4)) (e5 : x5 = iI (row 5)) : SesL G a fl row tab H := by
  subst e0; subst e1; subst e2; subst e3; subst e4; subst e5
  exact ⟨t, ho, hr, ht⟩
theorem DiscAt.re {G : GG} {b n : Nat} {fl : Nat → Option Fil} {σ τ : St} {H H1 : Heap} {x y z : Int32} (h : DiscAt G b fl σ H) (ho : Ob G b 1 [.ref (b + 1), .ref (b + 2), .ref (b + 3), .ref (b + 4), .int x, .int y, .int z] H1) (ex : x = iI (mn τ)) (ey : y = iI (nx τ)) (ez : z = iI (cntB (dm τ) 240))
    (h3 : Ia G (b + 2) 1 240 (fun k => b2i (dm τ k)) H1) (h4 : Ia G (b + 3) 0 20 (fun k => iI (vr τ k)) H1) (h5 : Ia G (b + 4) 0 2 (fun k => if k = 0 then iI (s0 τ) else iI (s1 τ)) H1) (hn : n < 12) (hs : SesL G (b + 5 + 2 * n) fl (se τ n) (en τ n) H1) (hf : FrD b n H H1)
    (hk : ∀ k, k ≠ n → k < mn τ → k < mn σ ∧ se τ k = se σ k ∧ en τ k = en σ k) : DiscAt G b fl τ H1 := by
  subst ex; subst ey; subst ez
  obtain ⟨g1, g2, g3, g4, g5, g6, g7⟩ := h
  refine ⟨ho, g2.kept (hf.2 _ (by omega) (by omega) (by omega) (by omega) (by omega) (by omega)), h3, h4, h5, fun k hk2 => ?_, fun k hk2 hk3 => ?_⟩
  · by_cases e : k = n
    · subst e; exact hs.dead
    · exact (g6 k hk2).kept (hf.2 _ (by omega) (by omega) (by omega) (by omega) (by omega) (by omega)) (hf.2 _ (by omega) (by omega) (by omega) (by omega) (by omega) (by omega))
  · by_cases e : k = n
    · subst e; exact hs
    · obtain ⟨a1, a2, a3⟩ := hk k e hk2
      rw [a2, a3]
      exact (g7 k a1 hk3).kept (hf.2 _ (by omega) (by omega) (by omega) (by omega) (by omega) (by omega)) (hf.2 _ (by omega) (by omega) (by omega) (by omega) (by omega) (by omega))
theorem DiscAt.re0 {G : GG} {b : Nat} {fl : Nat → Option Fil} {σ τ : St} {H H1 : Heap} {x y z : Int32} (h : DiscAt G b fl σ H) (ho : Ob G b 1 [.ref (b + 1), .ref (b + 2), .ref (b + 3), .ref (b + 4), .int x, .int y, .int z] H1) (ex : x = iI (mn τ)) (ey : y = iI (nx τ)) (ez : z = iI (cntB (dm τ) 240))
    (h3 : Ia G (b + 2) 1 240 (fun k => b2i (dm τ k)) H1) (h4 : Ia G (b + 3) 0 20 (fun k => iI (vr τ k)) H1) (h5 : Ia G (b + 4) 0 2 (fun k => if k = 0 then iI (s0 τ) else iI (s1 τ)) H1) (hf : FrE b H H1)
    (hm : mn τ = mn σ) (hse : se τ = se σ) (hen : en τ = en σ) : DiscAt G b fl τ H1 := by
  subst ex; subst ey; subst ez
  obtain ⟨g1, g2, g3, g4, g5, g6, g7⟩ := h
  refine ⟨ho, g2.kept (hf.2 _ (by omega) (by omega) (by omega) (by omega)), h3, h4, h5, fun k hk2 => ?_, fun k hk2 hk3 => ?_⟩
  · exact (g6 k hk2).kept (hf.2 _ (by omega) (by omega) (by omega) (by omega)) (hf.2 _ (by omega) (by omega) (by omega) (by omega))
  · rw [hse, hen]
    rw [hm] at hk2
    exact (g7 k hk2 hk3).kept (hf.2 _ (by omega) (by omega) (by omega) (by omega)) (hf.2 _ (by omega) (by omega) (by omega) (by omega))
/-- an action's end on a disc -/
def WD (G : GG) (b : Nat) (fl : Nat → Option Fil) (sp : Int × St) : Option Value → Heap → Heap → Prop := WE (iI sp.1) (fun H H1 => DiscAt G b fl sp.2 H1 ∧ FrS b (b + 29) H H1)
theorem WD_i {G : GG} {b : Nat} {fl : Nat → Option Fil} {sp : Int × St} {z w : Int} {τ : St} {H H1 : Heap} (h : sp = (w, τ)) (hz : z = w) (hd : DiscAt G b fl τ H1) (hf : FrS b (b + 29) H H1) : WD G b fl sp (some (.int (iI z))) H H1 := by
  subst h; subst hz; exact ⟨rfl, hd, hf⟩
theorem TabOk.up {fl : Nat → Option Fil} {t : Nat → Option Nat} {e : Nat → Option Fil} {k : Nat} {q : Option Nat} {o : Option Fil} (h : TabOk fl t e) (h1 : q.bind fl = o) (h2 : ∀ a, q = some a → ∃ f, fl a = some f) : TabOk fl (va_up t k q) (va_up e k o) := by
  intro j hj
  by_cases hjk : j = k
  · subst hjk; rw [up_s, up_s]; exact ⟨h1, h2⟩
  · rw [up_n hjk, up_n hjk]; exact h j hj
theorem up_same {α : Type} {f : Nat → α} {k : Nat} {v : α} (h : f k = v) : va_up f k v = f := by
  funext j
  by_cases hj : j = k
  · subst hj; rw [up_s, h]
  · rw [up_n hj]
theorem cntB_up {p : Nat → Bool} {k : Nat} (h : p k = false) : ∀ {N : Nat}, k < N → cntB (va_up p k true) N = cntB p N + 1
  | 0, hk => absurd hk (Nat.not_lt_zero k)
  | N + 1, hk => by
    rw [cntB, cntB]
    by_cases he : k = N
    · subst he
      rw [up_s, h, cntB_congr (p := va_up p k true) (q := p) (N := k) (fun j hj => up_n (by omega))]
      rfl
    · rw [cntB_up h (N := N) (by omega), up_n (Ne.symm he)]
      omega
theorem TabOk.some {fl : Nat → Option Fil} {t : Nat → Option Nat} {e : Nat → Option Fil} (h : TabOk fl t e) {k : Nat} (hk : k < 20) : (t k).isSome = (e k).isSome := by
  obtain ⟨h1, h2⟩ := h k hk
  cases ht : t k with
  | none => rw [ht] at h1; rw [← h1]; rfl
  | some a =>
    obtain ⟨f, hf⟩ := h2 a ht
    rw [ht] at h1
    rw [← h1]
    show true = (fl a).isSome
    rw [hf]; rfl
theorem upd_b {d : Nat → Bool} {k : Nat} {b : Bool} (j : Nat) : upd (fun k => b2i (d k)) k (b2i b) j = b2i (va_up d k b j) := by
  by_cases hj : j = k
  · subst hj; simp [upd, va_up]
  · simp [upd, va_up, hj]
theorem upd_i {d : Nat → Nat} {k v : Nat} (j : Nat) : upd (fun k => iI (d k)) k (iI v) j = iI ((va_up d k v j : Nat) : Int) := by
  by_cases hj : j = k
  · subst hj; simp [upd, va_up]
  · simp [upd, va_up, hj]
theorem upd_i2 {d : Nat → Nat} {k : Nat} (j : Nat) : upd (fun k => iI (d k)) k (iI ((d k : Int) + 1)) j = iI ((va_up d k (d k + 1) j : Nat) : Int) := upd_i j
/-- the end of an action that may make one file -/
def WDF (G : GG) (b fb : Nat) (fl : Nat → Option Fil) (sp : Int × St) : Option Value → Heap → Heap → Prop := WE (iI sp.1) (fun H H1 => ∃ fl', Ext fl fl' ∧ FlAt G fb fl' H1 ∧ DiscAt G b fl' sp.2 H1 ∧ FrR b (b + 29) H H1)
theorem WDF_i {G : GG} {b fb : Nat} {fl : Nat → Option Fil} {sp : Int × St} {z w : Int} {τ : St} {H : Heap} (h : sp = (w, τ)) (hz : z = w) (hd : DiscAt G b fl τ H) (hf : FlAt G fb fl H) : WDF G b fb fl sp (some (.int (iI z))) H H := by
  subst h; subst hz; exact ⟨rfl, fl, Ext.rf, hf, hd, FrR.rf⟩
theorem WDF_w {G : GG} {b fb : Nat} {fl fl' : Nat → Option Fil} {sp : Int × St} {z w : Int} {τ : St} {H H1 H2 : Heap} (h : sp = (w, τ)) (hz : z = w) (hE : Ext fl fl') (hd : DiscAt G b fl' τ H2) (hf : FlAt G fb fl' H2) (hS : FrS b (b + 29) H1 H2) (hP : Pu H H1) : WDF G b fb fl sp (some (.int (iI z))) H H2 := by
  subst h; subst hz; exact ⟨rfl, fl', hE, hf, hd, (FrR.pu hP).trans hS.R⟩
/-- a disc that is being copied: its own cell is told of τ, its first K sessions too -/
def CopyAt (G : GG) (b : Nat) (fl : Nat → Option Fil) (τ : St) (K : Nat) (dA vA sA : Nat → Int32) (H : Heap) : Prop :=
  Ob G b 1 [.ref (b + 1), .ref (b + 2), .ref (b + 3), .ref (b + 4), .int (iI (mn τ)), .int (iI (nx τ)), .int (iI (cntB (dm τ) 240))] H ∧
  Ra G (b + 1) 3 12 (fun k => some (b + 5 + 2 * k)) H ∧ Ia G (b + 2) 1 240 dA H ∧ Ia G (b + 3) 0 20 vA H ∧ Ia G (b + 4) 0 2 sA H ∧
  (∀ n, n < 12 → SesD G (b + 5 + 2 * n) H) ∧ ∀ n, n < K → n < 12 → SesL G (b + 5 + 2 * n) fl (se τ n) (en τ n) H
theorem CopyAt.pd {G : GG} {b K : Nat} {fl : Nat → Option Fil} {τ : St} {dA vA sA dB : Nat → Int32} {H H1 : Heap} (h : CopyAt G b fl τ K dA vA sA H) (hi : Ia G (b + 2) 1 240 dB H1) (hf : Fr1 (b + 2) H H1) : CopyAt G b fl τ K dB vA sA H1 := by
  obtain ⟨h1, h2, h3, h4, h5, h6, h7⟩ := h
  exact ⟨h1.kept (hf.2 _ (by omega)), h2.kept (hf.2 _ (by omega)), hi, h4.kept (hf.2 _ (by omega)), h5.kept (hf.2 _ (by omega)), fun n hn => (h6 n hn).kept (hf.2 _ (by omega)) (hf.2 _ (by omega)), fun n hn hn2 => (h7 n hn hn2).kept (hf.2 _ (by omega)) (hf.2 _ (by omega))⟩
theorem CopyAt.pv {G : GG} {b K : Nat} {fl : Nat → Option Fil} {τ : St} {dA vA sA vB : Nat → Int32} {H H1 : Heap} (h : CopyAt G b fl τ K dA vA sA H) (hi : Ia G (b + 3) 0 20 vB H1) (hf : Fr1 (b + 3) H H1) : CopyAt G b fl τ K dA vB sA H1 := by
  obtain ⟨h1, h2, h3, h4, h5, h6, h7⟩ := h
  exact ⟨h1.kept (hf.2 _ (by omega)), h2.kept (hf.2 _ (by omega)), h3.kept (hf.2 _ (by omega)), hi, h5.kept (hf.2 _ (by omega)), fun n hn => (h6 n hn).kept (hf.2 _ (by omega)) (hf.2 _ (by omega)), fun n hn hn2 => (h7 n hn hn2).kept (hf.2 _ (by omega)) (hf.2 _ (by omega))⟩
theorem CopyAt.ps {G : GG} {b K : Nat} {fl : Nat → Option Fil} {τ : St} {dA vA sA sB : Nat → Int32} {H H1 : Heap} (h : CopyAt G b fl τ K dA vA sA H) (hi : Ia G (b + 4) 0 2 sB H1) (hf : Fr1 (b + 4) H H1) : CopyAt G b fl τ K dA vA sB H1 := by
  obtain ⟨h1, h2, h3, h4, h5, h6, h7⟩ := h
  exact ⟨h1.kept (hf.2 _ (by omega)), h2.kept (hf.2 _ (by omega)), h3.kept (hf.2 _ (by omega)), h4.kept (hf.2 _ (by omega)), hi, fun n hn => (h6 n hn).kept (hf.2 _ (by omega)) (hf.2 _ (by omega)), fun n hn hn2 => (h7 n hn hn2).kept (hf.2 _ (by omega)) (hf.2 _ (by omega))⟩
theorem CopyAt.pn {G : GG} {b K : Nat} {fl : Nat → Option Fil} {τ : St} {dA vA sA : Nat → Int32} {H H1 : Heap} (h : CopyAt G b fl τ K dA vA sA H) (hK : K < 12) (hs : SesL G (b + 5 + 2 * K) fl (se τ K) (en τ K) H1) (hf : FrS (b + 5 + 2 * K) (b + 5 + 2 * K + 2) H H1) : CopyAt G b fl τ (K + 1) dA vA sA H1 := by
  obtain ⟨h1, h2, h3, h4, h5, h6, h7⟩ := h
  refine ⟨h1.kept (hf.2 _ (by omega)), h2.kept (hf.2 _ (by omega)), h3.kept (hf.2 _ (by omega)), h4.kept (hf.2 _ (by omega)), h5.kept (hf.2 _ (by omega)), fun n hn => ?_, fun n hn hn2 => ?_⟩
  · by_cases e : n = K
    · subst e; exact hs.dead
    · exact (h6 n hn).kept (hf.2 _ (by omega)) (hf.2 _ (by omega))
  · by_cases e : n = K
    · subst e; exact hs
    · exact (h7 n (by omega) hn2).kept (hf.2 _ (by omega)) (hf.2 _ (by omega))
theorem CopyAt.done {G : GG} {b K : Nat} {fl : Nat → Option Fil} {τ : St} {dA vA sA : Nat → Int32} {H : Heap} (h : CopyAt G b fl τ K dA vA sA H) (hK : mn τ ≤ K ∨ 12 ≤ K) (e1 : ∀ j, j < 240 → dA j = b2i (dm τ j)) (e2 : ∀ j, j < 20 → vA j = iI (vr τ j)) (e3 : ∀ j, j < 2 → sA j = if j = 0 then iI (s0 τ) else iI (s1 τ)) : DiscAt G b fl τ H := by
  obtain ⟨h1, h2, h3, h4, h5, h6, h7⟩ := h
  exact ⟨h1, h2, h3.to e1, h4.to e2, h5.to e3, h6, fun n hn hn2 => h7 n (by omega) hn2⟩
theorem upd_if {f g : Nat → Int32} {k : Nat} (j : Nat) : upd (fun j => if j < k then f j else g j) k (f k) j = if j < k + 1 then f j else g j := by
  by_cases h1 : j = k
  · subst h1; simp [upd]
  · have h2 : j < k + 1 ↔ j < k := by omega
    simp [upd, h1, h2]
end
section
set_option maxHeartbeats 4000000 in
set_option maxRecDepth 100000 in
theorem c_X1_leadOutOf (G : GG) (l : Launch) (b : Nat) (fl : Nat → Option Fil) (σ : St) (hI : Inv σ) (n : Nat) (hga : G.2.2 ≤ b) (hn : n + 1 = mn σ) : Ct G l yX1_leadOutOf cX1_leadOutOf 2 (some .int) ({ frames := 0, cells := 0, slots := 0, locals := 0 } : Room) [.ref (b), .ref (b + 5 + 2 * n)] (fun H => DiscAt G b fl σ H) (WD G b fl (leadOut σ n)) := by
  refine Ct.of (by decide +kernel) (Nat.le_of_ble_eq_true rfl) ?_
  intro p e s m args below meth c ls E hnm hP hl
  have i1 := hI.mn12
  have i2 := hI.nx240
  have hb0 := hP.1
  have hb2 := hP.2.2.1
  have hb3 := hP.2.2.2.1
  have hb4 := hP.2.2.2.2.1
  have hfr : FrD b n s.heap s.heap := FrD.rf
  have hlast := hI.last n hn
  obtain ⟨t_, ho_, hr_, ht_⟩ := hP.live (n := n) (by omega) (by omega)
  have hl : lv_has ls 2 [(0, .ref (b)), (1, .ref (b + 5 + 2 * n))] := hl
  have hL : Lk G [] := Lk.nil
  generalize ([] : List Loc) = locs at hL ⊢
  refine lv_aload_n E.1 E.2.1 dX1_leadOutOf_0 rfl (lv_at hl 0 rfl) ?_
  refine lv_dup E.1 E.2.1 dX1_leadOutOf_1 rfl ?_
  refine m_get E hb0 fw_X1_33 rfl dX1_leadOutOf_2 ?_
  refine lv_aload_n E.1 E.2.1 dX1_leadOutOf_5 rfl (lv_at hl 1 rfl) ?_
  refine m_get E ho_ fw_X1_122 rfl dX1_leadOutOf_6 ?_
  refine r_add E dX1_leadOutOf_9 ?_
  refine m_put E hb0 fw_X1_33 fp_X1_5 rfl rfl (Nat.le_of_ble_eq_true rfl) hL (by omega) dX1_leadOutOf_10 (fun H1 locs hL hO_ hF_ => ?_)
  have hb2 := hb2.kept (hF_.2 _ (by omega))
  have hb3 := hb3.kept (hF_.2 _ (by omega))
  have hb4 := hb4.kept (hF_.2 _ (by omega))
  have ho_ := ho_.kept (hF_.2 _ (by omega))
  have hr_ := hr_.kept (hF_.2 _ (by omega))
  have hfr := hfr.one hF_ (by omega)
  have hb0 : Ob G (b) 1 [.ref (b + 1), .ref (b + 2), .ref (b + 3), .ref (b + 4), .int (iI ((mn σ : Int))), .int (iI ((nx σ : Int) + (se σ n 4 : Int))), .int (iI ((cntB (dm σ) 240 : Int)))] H1 := hO_
  clear hO_
  refine lv_aload_n E.1 E.2.1 dX1_leadOutOf_13 rfl (lv_at hl 1 rfl) ?_
  refine lv_aload_n E.1 E.2.1 dX1_leadOutOf_14 rfl (lv_at hl 0 rfl) ?_
  refine m_get E hb0 fw_X1_33 rfl dX1_leadOutOf_15 ?_
  refine m_put E ho_ fw_X1_62 fp_X3_3 rfl rfl (Nat.le_of_ble_eq_true rfl) hL (by omega) dX1_leadOutOf_18 (fun H2 locs hL hO_ hF_ => ?_)
  have hb0 := hb0.kept (hF_.2 _ (by omega))
  have hb2 := hb2.kept (hF_.2 _ (by omega))
  have hb3 := hb3.kept (hF_.2 _ (by omega))
  have hb4 := hb4.kept (hF_.2 _ (by omega))
  have hr_ := hr_.kept (hF_.2 _ (by omega))
  have hfr := hfr.one hF_ (by omega)
  have ho_ : Ob G (b + 5 + 2 * n) 3 [.ref (b + 5 + 2 * n + 1), .int (iI ((se σ n 0 : Int))), .int (iI ((se σ n 1 : Int))), .int (iI ((nx σ : Int) + (se σ n 4 : Int))), .int (iI ((se σ n 3 : Int))), .int (iI ((se σ n 4 : Int))), .int (iI ((se σ n 5 : Int)))] H2 := hO_
  clear hO_
  refine lv_aload_n E.1 E.2.1 dX1_leadOutOf_21 rfl (lv_at hl 1 rfl) ?_
  refine r_const E dX1_leadOutOf_22 ?_
  refine m_put E ho_ fw_X1_105 fp_X3_1 rfl rfl (Nat.le_of_ble_eq_true rfl) hL (by omega) dX1_leadOutOf_23 (fun H3 locs hL hO_ hF_ => ?_)
  have hb0 := hb0.kept (hF_.2 _ (by omega))
  have hb2 := hb2.kept (hF_.2 _ (by omega))
  have hb3 := hb3.kept (hF_.2 _ (by omega))
  have hb4 := hb4.kept (hF_.2 _ (by omega))
  have hr_ := hr_.kept (hF_.2 _ (by omega))
  have hfr := hfr.one hF_ (by omega)
  have ho_ : Ob G (b + 5 + 2 * n) 3 [.ref (b + 5 + 2 * n + 1), .int (iI (1)), .int (iI ((se σ n 1 : Int))), .int (iI ((nx σ : Int) + (se σ n 4 : Int))), .int (iI ((se σ n 3 : Int))), .int (iI ((se σ n 4 : Int))), .int (iI ((se σ n 5 : Int)))] H3 := hO_
  clear hO_
  refine lv_aload_n E.1 E.2.1 dX1_leadOutOf_26 rfl (lv_at hl 0 rfl) ?_
  refine m_get E hb0 fw_X1_33 rfl dX1_leadOutOf_27 ?_
  refine e_iret (rm := ({ frames := 0, cells := 0, slots := 0, locals := 0 } : Room)) (v := iI ((nx σ : Int) + (se σ n 4 : Int))) E hL dX1_leadOutOf_30 ?_
  refine WD_i (τ := (leadOut σ n).2) rfl rfl ?_ (hfr.S (by omega))
  refine hP.re (n := n) hb0 rfl (congrArg iI (by show _ = ((nx σ + se σ n 4 : Nat) : Int); omega)) rfl hb2 hb3 hb4 (by omega) ?_ hfr (fun k hk hk2 => ⟨hk2, up_n hk, rfl⟩)
  refine SesL.mk2 (t := t_) ho_ hr_ ht_ ?_ ?_ ?_ ?_ ?_ ?_
  · show _ = iI ((va_up (se σ) n _ n 0 : Nat) : Int); rw [up_s]; rfl
  · show _ = iI ((va_up (se σ) n _ n 1 : Nat) : Int); rw [up_s]; rfl
  · show _ = iI (((va_up (se σ) n _ n 1 : Nat) : Int) + ((va_up (se σ) n _ n 2 : Nat) : Int)); rw [up_s]; exact congrArg iI (by show _ = ((se σ n 1 : Nat) : Int) + ((se σ n 2 + se σ n 4 : Nat) : Int); omega)
  · show _ = iI ((va_up (se σ) n _ n 3 : Nat) : Int); rw [up_s]; rfl
  · show _ = iI ((va_up (se σ) n _ n 4 : Nat) : Int); rw [up_s]; rfl
  · show _ = iI ((va_up (se σ) n _ n 5 : Nat) : Int); rw [up_s]; rfl

set_option maxHeartbeats 4000000 in
set_option maxRecDepth 100000 in
theorem c_X1_closeSession (G : GG) (l : Launch) (b : Nat) (fl : Nat → Option Fil) (σ : St) (hI : Inv σ) (hga : G.2.2 ≤ b) : Ct G l yX1_closeSession cX1_closeSession 2 (some .int) ({ frames := 2, cells := 0, slots := 0, locals := 42 } : Room) [.ref (b)] (fun H => DiscAt G b fl σ H) (WD G b fl (spClose σ)) := by
  refine Ct.of (by decide +kernel) (Nat.le_of_ble_eq_true rfl) ?_
  intro p e s m args below meth c ls E hnm hP hl
  have i1 := hI.mn12
  have i2 := hI.nx240
  have hl : lv_has ls 2 [(0, .ref (b))] := hl
  have hL : Lk G [] := Lk.nil
  generalize ([] : List Loc) = locs at hL ⊢
  refine lv_aload_n E.1 E.2.1 dX1_closeSession_0 rfl (lv_at hl 0 rfl) ?_
  refine kVQE (As := []) E cw_X1_43 (c_X1_openSession G l b fl σ hI) hP.1 ⟨_, _, rfl⟩ hP hL hl.1 rfl rfl (Nat.le_of_ble_eq_true rfl) ⟨Nat.le_of_ble_eq_true rfl, Nat.le_of_ble_eq_true rfl⟩ ⟨rfl, rfl⟩ ⟨Nat.le_of_ble_eq_true rfl, Nat.le_of_ble_eq_true rfl⟩ dX1_closeSession_1 (fun locs hL => ?_)
  rcases hop : opn σ with _ | n
  · refine lv_astore_nN (lv' := [(1, .null), (0, .ref (b))]) E.1 E.2.1 dX1_closeSession_4 rfl hl (by decide) rfl (fun ls hl => ?_)
    refine lv_aload_nN E.1 E.2.1 dX1_closeSession_5 rfl (lv_at hl 0 rfl) ?_
    refine lv_ifnonnullN E.1 E.2.1 dX1_closeSession_6 ?_
    refine r_bipush E dX1_closeSession_9 (by decide) ?_
    refine lv_goto (tgt := 19) E.1 E.2.1 dX1_closeSession_11 (by decide) ?_
    refine e_iret (rm := ({ frames := 2, cells := 0, slots := 0, locals := 42 } : Room)) (v := iI ((-5))) E hL dX1_closeSession_19 ?_
    exact WD_i (by simp only [spClose, hop]) rfl hP FrS.rf
  · have hn := (opn_some hop).1
    have hn0 := (opn_some hop).2
    have hrow := hI.row (n := n) (by omega)
    obtain ⟨t_, ho_, hr_, ht_⟩ := hP.live (n := n) (by omega) (by omega)
    refine lv_astore_n (lv' := [(1, .ref (b + 5 + 2 * n)), (0, .ref (b))]) E.1 E.2.1 dX1_closeSession_4 rfl hl (by decide) rfl (fun ls hl => ?_)
    refine lv_aload_n E.1 E.2.1 dX1_closeSession_5 rfl (lv_at hl 0 rfl) ?_
    refine lv_ifnonnull (tgt := 14) E.1 E.2.1 dX1_closeSession_6 (by decide) ?_
    refine lv_aload_n E.1 E.2.1 dX1_closeSession_14 rfl (lv_at hl 1 rfl) ?_
    refine lv_aload_n E.1 E.2.1 dX1_closeSession_15 rfl (lv_at hl 0 rfl) ?_
    refine kVWE (As := [.ref (b + 5 + 2 * n)]) E cw_X1_101 (c_X1_leadOutOf G l b fl σ hI (n) hga (by omega)) hP.1 ⟨_, _, rfl⟩ hP hL hl.1 rfl rfl (Nat.le_of_ble_eq_true rfl) ⟨Nat.le_of_ble_eq_true rfl, Nat.le_of_ble_eq_true rfl⟩ ⟨Nat.le_of_ble_eq_true rfl, Nat.le_of_ble_eq_true rfl⟩ dX1_closeSession_16 (fun H1 locs hL hw_ => ?_)
    obtain ⟨hP1, hS1⟩ := hw_
    refine e_iret (rm := ({ frames := 2, cells := 0, slots := 0, locals := 42 } : Room)) (v := iI ((leadOut σ n).1)) E hL dX1_closeSession_19 ?_
    exact WD_i (sp := spClose σ) (by simp only [spClose, hop]) rfl hP1 hS1

set_option maxHeartbeats 4000000 in
set_option maxRecDepth 100000 in
theorem c_X1_breakSession (G : GG) (l : Launch) (b : Nat) (fl : Nat → Option Fil) (σ : St) (hI : Inv σ) (hga : G.2.2 ≤ b) : Ct G l yX1_breakSession cX1_breakSession 2 (some .int) ({ frames := 2, cells := 0, slots := 0, locals := 42 } : Room) [.ref (b)] (fun H => DiscAt G b fl σ H) (WD G b fl (spEject σ)) := by
  refine Ct.of (by decide +kernel) (Nat.le_of_ble_eq_true rfl) ?_
  intro p e s m args below meth c ls E hnm hP hl
  have i1 := hI.mn12
  have i2 := hI.nx240
  have hb0 := hP.1
  have hb2 := hP.2.2.1
  have hb3 := hP.2.2.2.1
  have hb4 := hP.2.2.2.2.1
  have hl : lv_has ls 2 [(0, .ref (b))] := hl
  have hL : Lk G [] := Lk.nil
  generalize ([] : List Loc) = locs at hL ⊢
  refine lv_aload_n E.1 E.2.1 dX1_breakSession_0 rfl (lv_at hl 0 rfl) ?_
  refine kVQE (As := []) E cw_X1_43 (c_X1_openSession G l b fl σ hI) hP.1 ⟨_, _, rfl⟩ hP hL hl.1 rfl rfl (Nat.le_of_ble_eq_true rfl) ⟨Nat.le_of_ble_eq_true rfl, Nat.le_of_ble_eq_true rfl⟩ ⟨rfl, rfl⟩ ⟨Nat.le_of_ble_eq_true rfl, Nat.le_of_ble_eq_true rfl⟩ dX1_breakSession_1 (fun locs hL => ?_)
  rcases hop : opn σ with _ | n
  · refine lv_astore_nN (lv' := [(1, .null), (0, .ref (b))]) E.1 E.2.1 dX1_breakSession_4 rfl hl (by decide) rfl (fun ls hl => ?_)
    refine lv_aload_nN E.1 E.2.1 dX1_breakSession_5 rfl (lv_at hl 0 rfl) ?_
    refine lv_ifnonnullN E.1 E.2.1 dX1_breakSession_6 ?_
    refine r_const E dX1_breakSession_9 ?_
    refine e_iret (rm := ({ frames := 2, cells := 0, slots := 0, locals := 42 } : Room)) (v := iI (0)) E hL dX1_breakSession_10 ?_
    exact WD_i (by simp only [spEject, hop]) rfl hP FrS.rf
  · have hn := (opn_some hop).1
    have hn0 := (opn_some hop).2
    have hrow := hI.row (n := n) (by omega)
    obtain ⟨t_, ho_, hr_, ht_⟩ := hP.live (n := n) (by omega) (by omega)
    refine lv_astore_n (lv' := [(1, .ref (b + 5 + 2 * n)), (0, .ref (b))]) E.1 E.2.1 dX1_breakSession_4 rfl hl (by decide) rfl (fun ls hl => ?_)
    refine lv_aload_n E.1 E.2.1 dX1_breakSession_5 rfl (lv_at hl 0 rfl) ?_
    refine lv_ifnonnull (tgt := 11) E.1 E.2.1 dX1_breakSession_6 (by decide) ?_
    have hfr : FrD b n s.heap s.heap := FrD.rf
    refine lv_aload_n E.1 E.2.1 dX1_breakSession_11 rfl (lv_at hl 0 rfl) ?_
    refine r_const E dX1_breakSession_12 ?_
    refine m_put E ho_ fw_X1_105 fp_X3_1 rfl rfl (Nat.le_of_ble_eq_true rfl) hL (by omega) dX1_breakSession_13 (fun H1 locs hL hO_ hF_ => ?_)
    have hb0 := hb0.kept (hF_.2 _ (by omega))
    have hb2 := hb2.kept (hF_.2 _ (by omega))
    have hb3 := hb3.kept (hF_.2 _ (by omega))
    have hb4 := hb4.kept (hF_.2 _ (by omega))
    have hr_ := hr_.kept (hF_.2 _ (by omega))
    have hfr := hfr.one hF_ (by omega)
    have ho_ : Ob G (b + 5 + 2 * n) 3 [.ref (b + 5 + 2 * n + 1), .int (iI (2)), .int (iI ((se σ n 1 : Int))), .int (iI (((se σ n 1 : Int) + (se σ n 2 : Int)))), .int (iI ((se σ n 3 : Int))), .int (iI ((se σ n 4 : Int))), .int (iI ((se σ n 5 : Int)))] H1 := hO_
    clear hO_
    refine r_const E dX1_breakSession_16 ?_
    refine e_iret (rm := ({ frames := 2, cells := 0, slots := 0, locals := 42 } : Room)) (v := iI (1)) E hL dX1_breakSession_17 ?_
    refine WD_i (sp := spEject σ) (by simp only [spEject, hop]; rfl) rfl ?_ (hfr.S (by omega))
    refine hP.re (n := n) hb0 rfl rfl rfl hb2 hb3 hb4 (by omega) ?_ hfr (fun k hk hk2 => ⟨hk2, up_n hk, rfl⟩)
    refine SesL.mk2 (t := t_) ho_ hr_ ht_ ?_ ?_ ?_ ?_ ?_ ?_
    · show _ = iI ((va_up (se σ) n _ n 0 : Nat) : Int); rw [up_s]; rfl
    · show _ = iI ((va_up (se σ) n _ n 1 : Nat) : Int); rw [up_s]; rfl
    · show _ = iI (((va_up (se σ) n _ n 1 : Nat) : Int) + ((va_up (se σ) n _ n 2 : Nat) : Int)); rw [up_s]; rfl
    · show _ = iI ((va_up (se σ) n _ n 3 : Nat) : Int); rw [up_s]; rfl
    · show _ = iI ((va_up (se σ) n _ n 4 : Nat) : Int); rw [up_s]; rfl
    · show _ = iI ((va_up (se σ) n _ n 5 : Nat) : Int); rw [up_s]; rfl

set_option maxHeartbeats 4000000 in
set_option maxRecDepth 100000 in
theorem c_X1_repairSession (G : GG) (l : Launch) (b : Nat) (fl : Nat → Option Fil) (σ : St) (hI : Inv σ) (x : Int) (hx : okI x) (hga : G.2.2 ≤ b) : Ct G l yX1_repairSession cX1_repairSession 4 (some .int) ({ frames := 2, cells := 0, slots := 0, locals := 49 } : Room) [.ref (b), .int (iI (x))] (fun H => DiscAt G b fl σ H) (WD G b fl (spRepair σ x)) := by
  refine Ct.of (by decide +kernel) (Nat.le_of_ble_eq_true rfl) ?_
  intro p e s m args below meth c ls E hnm hP hl
  have i1 := hI.mn12
  have i2 := hI.nx240
  obtain ⟨hx1, hx2⟩ := hx
  have hl : lv_has ls 4 [(0, .ref (b)), (1, .int (iI (x)))] := hl
  have hL : Lk G [] := Lk.nil
  generalize ([] : List Loc) = locs at hL ⊢
  refine lv_aload_n E.1 E.2.1 dX1_repairSession_0 rfl (lv_at hl 0 rfl) ?_
  refine lv_iload_n E.1 E.2.1 dX1_repairSession_1 rfl (lv_at hl 1 rfl) ?_
  by_cases h0 : 0 ≤ x ∧ x < mn σ
  · obtain ⟨n, rfl⟩ : ∃ n : Nat, x = (n : Int) := ⟨x.toNat, by omega⟩
    have hrow := hI.row (n := n) (by omega)
    obtain ⟨t_, ho_, hr_, ht_⟩ := hP.live (n := n) (by omega) (by omega)
    refine kVQE (As := [.int (iI ((n : Int)))]) E cw_X1_51 (c_sessionAt_s G l b fl σ hI n (by omega)) hP.1 ⟨_, _, rfl⟩ hP hL hl.1 rfl rfl (Nat.le_of_ble_eq_true rfl) ⟨Nat.le_of_ble_eq_true rfl, Nat.le_of_ble_eq_true rfl⟩ ⟨rfl, rfl⟩ ⟨Nat.le_of_ble_eq_true rfl, Nat.le_of_ble_eq_true rfl⟩ dX1_repairSession_2 (fun locs hL => ?_)
    refine lv_astore_n (lv' := [(2, .ref (b + 5 + 2 * n)), (0, .ref (b)), (1, .int (iI ((n : Int))))]) E.1 E.2.1 dX1_repairSession_5 rfl hl (by decide) rfl (fun ls hl => ?_)
    refine lv_aload_n E.1 E.2.1 dX1_repairSession_6 rfl (lv_at hl 0 rfl) ?_
    refine lv_ifnonnull (tgt := 12) E.1 E.2.1 dX1_repairSession_7 (by decide) ?_
    refine lv_iload_n E.1 E.2.1 dX1_repairSession_12 rfl (lv_at hl 2 rfl) ?_
    refine lv_aload_n E.1 E.2.1 dX1_repairSession_13 rfl (lv_at hl 1 rfl) ?_
    refine m_get E hP.1 fw_X1_29 rfl dX1_repairSession_14 ?_
    refine r_const E dX1_repairSession_17 ?_
    refine r_sub E dX1_repairSession_18 ?_
    refine r_icmp_ne (tgt := 26) E dX1_repairSession_19 (by decide) (by omega) (by omega) (fun c19 => ?_) (fun c19 => ?_)
    · refine r_const E dX1_repairSession_26 ?_
      refine lv_istore_n (lv' := [(3, .int (iI (0))), (2, .ref (b + 5 + 2 * n)), (0, .ref (b)), (1, .int (iI ((n : Int))))]) E.1 E.2.1 dX1_repairSession_27 rfl hl (by decide) rfl (fun ls hl => ?_)
      refine lv_aload_n E.1 E.2.1 dX1_repairSession_28 rfl (lv_at hl 1 rfl) ?_
      refine m_get E ho_ fw_X1_105 rfl dX1_repairSession_29 ?_
      refine r_const E dX1_repairSession_32 ?_
      refine r_icmp_ne (tgt := 56) E dX1_repairSession_33 (by decide) (by omega) (by omega) (fun c33 => ?_) (fun c33 => ?_)
      · refine r_bipush E dX1_repairSession_56 (by decide) ?_
        refine e_iret (rm := ({ frames := 2, cells := 0, slots := 0, locals := 49 } : Room)) (v := iI ((-5))) E hL dX1_repairSession_58 ?_
        refine WD_i (w := -5) (τ := σ) ?_ rfl hP FrS.rf
        unfold spRepair
        rw [if_neg (by omega), Int.toNat_natCast, if_neg]
        rintro ⟨g1, g2, g3⟩
        first | omega | (rw [c53] at g3; cases g3)
      · refine lv_iload_n E.1 E.2.1 dX1_repairSession_36 rfl (lv_at hl 0 rfl) ?_
        refine r_if_eq (tgt := 56) E dX1_repairSession_37 (by decide) (by omega) (fun c37 => ?_) (fun c37 => absurd c37 (by omega))
        refine r_bipush E dX1_repairSession_56 (by decide) ?_
        refine e_iret (rm := ({ frames := 2, cells := 0, slots := 0, locals := 49 } : Room)) (v := iI ((-5))) E hL dX1_repairSession_58 ?_
        refine WD_i (w := -5) (τ := σ) ?_ rfl hP FrS.rf
        unfold spRepair
        rw [if_neg (by omega), Int.toNat_natCast, if_neg]
        rintro ⟨g1, g2, g3⟩
        first | omega | (rw [c53] at g3; cases g3)
    · refine r_const E dX1_repairSession_22 ?_
      refine lv_goto (tgt := 27) E.1 E.2.1 dX1_repairSession_23 (by decide) ?_
      refine lv_istore_n (lv' := [(3, .int (iI (1))), (2, .ref (b + 5 + 2 * n)), (0, .ref (b)), (1, .int (iI ((n : Int))))]) E.1 E.2.1 dX1_repairSession_27 rfl hl (by decide) rfl (fun ls hl => ?_)
      refine lv_aload_n E.1 E.2.1 dX1_repairSession_28 rfl (lv_at hl 1 rfl) ?_
      refine m_get E ho_ fw_X1_105 rfl dX1_repairSession_29 ?_
      refine r_const E dX1_repairSession_32 ?_
      refine r_icmp_ne (tgt := 56) E dX1_repairSession_33 (by decide) (by omega) (by omega) (fun c33 => ?_) (fun c33 => ?_)
      · refine r_bipush E dX1_repairSession_56 (by decide) ?_
        refine e_iret (rm := ({ frames := 2, cells := 0, slots := 0, locals := 49 } : Room)) (v := iI ((-5))) E hL dX1_repairSession_58 ?_
        refine WD_i (w := -5) (τ := σ) ?_ rfl hP FrS.rf
        unfold spRepair
        rw [if_neg (by omega), Int.toNat_natCast, if_neg]
        rintro ⟨g1, g2, g3⟩
        first | omega | (rw [c53] at g3; cases g3)
      · refine lv_iload_n E.1 E.2.1 dX1_repairSession_36 rfl (lv_at hl 0 rfl) ?_
        refine r_if_eq (tgt := 56) E dX1_repairSession_37 (by decide) (by omega) (fun c37 => absurd c37 (by omega)) (fun c37 => ?_)
        refine lv_aload_n E.1 E.2.1 dX1_repairSession_40 rfl (lv_at hl 2 rfl) ?_
        refine lv_aload_n E.1 E.2.1 dX1_repairSession_41 rfl (lv_at hl 1 rfl) ?_
        refine m_get E ho_ fw_X1_108 rfl dX1_repairSession_42 ?_
        refine lv_aload_n E.1 E.2.1 dX1_repairSession_45 rfl (lv_at hl 1 rfl) ?_
        refine m_get E ho_ fw_X1_109 rfl dX1_repairSession_46 ?_
        refine r_const E dX1_repairSession_49 ?_
        refine kVRE (As := [.int (iI ((se σ n 1 : Int))), .int (iI ((se σ n 3 : Int))), .int (iI ((-1)))]) E cw_X1_112 (c_X1_areWholeIf G l b fl σ (se σ n 1) (se σ n 3) ((-1)) (by unfold okI; omega) (by omega)) hP.1 ⟨_, _, rfl⟩ hP hL hl.1 rfl rfl (Nat.le_of_ble_eq_true rfl) ⟨Nat.le_of_ble_eq_true rfl, Nat.le_of_ble_eq_true rfl⟩ ⟨rfl, rfl⟩ ⟨Nat.le_of_ble_eq_true rfl, Nat.le_of_ble_eq_true rfl⟩ dX1_repairSession_50 (fun locs hL => ?_)
        rw [dmH_m1 (σ := σ) (h := -1) (by decide)]
        refine r_bif_ne (tgt := 59) E dX1_repairSession_53 (by decide)  (fun c53 => ?_) (fun c53 => ?_)
        · refine lv_aload_n E.1 E.2.1 dX1_repairSession_59 rfl (lv_at hl 2 rfl) ?_
          refine lv_aload_n E.1 E.2.1 dX1_repairSession_60 rfl (lv_at hl 1 rfl) ?_
          refine kVWE (As := [.ref (b + 5 + 2 * n)]) E cw_X1_101 (c_X1_leadOutOf G l b fl σ hI (n) hga (by omega)) hP.1 ⟨_, _, rfl⟩ hP hL hl.1 rfl rfl (Nat.le_of_ble_eq_true rfl) ⟨Nat.le_of_ble_eq_true rfl, Nat.le_of_ble_eq_true rfl⟩ ⟨Nat.le_of_ble_eq_true rfl, Nat.le_of_ble_eq_true rfl⟩ dX1_repairSession_61 (fun H1 locs hL hw_ => ?_)
          obtain ⟨hP1, hS1⟩ := hw_
          refine e_iret (rm := ({ frames := 2, cells := 0, slots := 0, locals := 49 } : Room)) (v := iI ((leadOut σ n).1)) E hL dX1_repairSession_64 ?_
          refine WD_i (sp := spRepair σ n) (w := (leadOut σ n).1) ?_ rfl hP1 hS1
          unfold spRepair
          rw [if_neg (by omega), Int.toNat_natCast, if_pos ⟨by omega, by omega, c53⟩]
        · refine r_bipush E dX1_repairSession_56 (by decide) ?_
          refine e_iret (rm := ({ frames := 2, cells := 0, slots := 0, locals := 49 } : Room)) (v := iI ((-5))) E hL dX1_repairSession_58 ?_
          refine WD_i (w := -5) (τ := σ) ?_ rfl hP FrS.rf
          unfold spRepair
          rw [if_neg (by omega), Int.toNat_natCast, if_neg]
          rintro ⟨g1, g2, g3⟩
          first | omega | (rw [c53] at g3; cases g3)
  · refine kVQE (As := [.int (iI (x))]) E cw_X1_51 (c_sessionAt_n G l b fl σ hI (x) (by unfold okI; omega) (by omega)) hP.1 ⟨_, _, rfl⟩ hP hL hl.1 rfl rfl (Nat.le_of_ble_eq_true rfl) ⟨Nat.le_of_ble_eq_true rfl, Nat.le_of_ble_eq_true rfl⟩ ⟨rfl, rfl⟩ ⟨Nat.le_of_ble_eq_true rfl, Nat.le_of_ble_eq_true rfl⟩ dX1_repairSession_2 (fun locs hL => ?_)
    refine lv_astore_nN (lv' := [(2, .null), (0, .ref (b)), (1, .int (iI (x)))]) E.1 E.2.1 dX1_repairSession_5 rfl hl (by decide) rfl (fun ls hl => ?_)
    refine lv_aload_nN E.1 E.2.1 dX1_repairSession_6 rfl (lv_at hl 0 rfl) ?_
    refine lv_ifnonnullN E.1 E.2.1 dX1_repairSession_7 ?_
    refine r_const E dX1_repairSession_10 ?_
    refine e_iret (rm := ({ frames := 2, cells := 0, slots := 0, locals := 49 } : Room)) (v := iI ((-1))) E hL dX1_repairSession_11 ?_
    exact WD_i (by unfold spRepair; rw [if_pos (by omega)]) rfl hP FrS.rf

set_option maxHeartbeats 4000000 in
set_option maxRecDepth 100000 in
theorem c_X1_damageSector (G : GG) (l : Launch) (b : Nat) (fl : Nat → Option Fil) (σ : St) (hI : Inv σ) (x : Int) (hx : okI x) (hga : G.2.2 ≤ b) : Ct G l yX1_damageSector cX1_damageSector 2 (some .int) ({ frames := 1, cells := 0, slots := 0, locals := 20 } : Room) [.ref (b), .int (iI (x))] (fun H => DiscAt G b fl σ H) (WD G b fl (spDamage σ x)) := by
  refine Ct.of (by decide +kernel) (Nat.le_of_ble_eq_true rfl) ?_
  intro p e s m args below meth c ls E hnm hP hl
  have i1 := hI.mn12
  have i2 := hI.nx240
  have hb0 := hP.1
  have hb2 := hP.2.2.1
  have hb3 := hP.2.2.2.1
  have hb4 := hP.2.2.2.2.1
  obtain ⟨hx1, hx2⟩ := hx
  have hfr : FrE b s.heap s.heap := FrE.rf
  have hl : lv_has ls 2 [(0, .ref (b)), (1, .int (iI (x)))] := hl
  have hL : Lk G [] := Lk.nil
  generalize ([] : List Loc) = locs at hL ⊢
  refine lv_iload_n E.1 E.2.1 dX1_damageSector_0 rfl (lv_at hl 1 rfl) ?_
  refine kSNRE (As := [.int (iI (x))]) E cw_X1_116 (c_X5_isSector G l (x) (by unfold okI; omega)) trivial hL hl.1 rfl rfl (Nat.le_of_ble_eq_true rfl) ⟨Nat.le_of_ble_eq_true rfl, Nat.le_of_ble_eq_true rfl⟩ ⟨rfl, rfl⟩ ⟨Nat.le_of_ble_eq_true rfl, Nat.le_of_ble_eq_true rfl⟩ dX1_damageSector_1 (fun locs hL => ?_)
  refine r_bif_ne (tgt := 9) E dX1_damageSector_4 (by decide)  (fun c4 => ?_) (fun c4 => ?_)
  · have c4 := of_decide_eq_true c4
    obtain ⟨n, rfl⟩ : ∃ n : Nat, x = (n : Int) := ⟨x.toNat, by omega⟩
    refine lv_aload_n E.1 E.2.1 dX1_damageSector_9 rfl (lv_at hl 0 rfl) ?_
    refine m_get E hb0 fw_X1_17 rfl dX1_damageSector_10 ?_
    refine lv_iload_n E.1 E.2.1 dX1_damageSector_13 rfl (lv_at hl 1 rfl) ?_
    refine r_zald E hb2 (n) rfl (by omega) (by decide) dX1_damageSector_14 ?_
    refine r_bif_ne (tgt := 35) E dX1_damageSector_15 (by decide)  (fun c15 => ?_) (fun c15 => ?_)
    · refine lv_aload_n E.1 E.2.1 dX1_damageSector_35 rfl (lv_at hl 0 rfl) ?_
      refine m_get E hb0 fw_X1_36 rfl dX1_damageSector_36 ?_
      refine e_iret (rm := ({ frames := 1, cells := 0, slots := 0, locals := 20 } : Room)) (v := iI ((cntB (dm σ) 240 : Int))) E hL dX1_damageSector_39 ?_
      refine WD_i (sp := spDamage σ n) (by unfold spDamage; rw [if_neg (by omega), Int.toNat_natCast, up_same c15]) rfl ?_ FrS.rf
      exact hP
    · refine lv_aload_n E.1 E.2.1 dX1_damageSector_18 rfl (lv_at hl 0 rfl) ?_
      refine m_get E hb0 fw_X1_17 rfl dX1_damageSector_19 ?_
      refine lv_iload_n E.1 E.2.1 dX1_damageSector_22 rfl (lv_at hl 1 rfl) ?_
      refine r_const E dX1_damageSector_23 ?_
      have hbv : iI (1) = b2i true := rfl
      rw [hbv]
      refine r_zast E hb2 (n) rfl (by omega) (by decide) hL (by omega) dX1_damageSector_24 (fun H1 locs hL hO_ hF_ => ?_)
      have hb0 := hb0.kept (hF_.2 _ (by omega))
      have hb3 := hb3.kept (hF_.2 _ (by omega))
      have hb4 := hb4.kept (hF_.2 _ (by omega))
      have hfr := hfr.one hF_ (by omega)
      have hb2 : Ia G (b + 2) 1 240 (upd (fun k => b2i (dm σ k)) (n) (b2i (true))) H1 := hO_
      clear hO_
      refine lv_aload_n E.1 E.2.1 dX1_damageSector_25 rfl (lv_at hl 0 rfl) ?_
      refine lv_dup E.1 E.2.1 dX1_damageSector_26 rfl ?_
      refine m_get E hb0 fw_X1_36 rfl dX1_damageSector_27 ?_
      refine r_const E dX1_damageSector_30 ?_
      refine r_add E dX1_damageSector_31 ?_
      refine m_put E hb0 fw_X1_36 fp_X1_6 rfl rfl (Nat.le_of_ble_eq_true rfl) hL (by omega) dX1_damageSector_32 (fun H2 locs hL hO_ hF_ => ?_)
      have hb2 := hb2.kept (hF_.2 _ (by omega))
      have hb3 := hb3.kept (hF_.2 _ (by omega))
      have hb4 := hb4.kept (hF_.2 _ (by omega))
      have hfr := hfr.one hF_ (by omega)
      have hb0 : Ob G (b) 1 [.ref (b + 1), .ref (b + 2), .ref (b + 3), .ref (b + 4), .int (iI ((mn σ : Int))), .int (iI ((nx σ : Int))), .int (iI (((cntB (dm σ) 240 : Int)) + 1))] H2 := hO_
      clear hO_
      refine lv_aload_n E.1 E.2.1 dX1_damageSector_35 rfl (lv_at hl 0 rfl) ?_
      refine m_get E hb0 fw_X1_36 rfl dX1_damageSector_36 ?_
      refine e_iret (rm := ({ frames := 1, cells := 0, slots := 0, locals := 20 } : Room)) (v := iI (((cntB (dm σ) 240 : Int)) + 1)) E hL dX1_damageSector_39 ?_
      refine WD_i (sp := spDamage σ n) (by unfold spDamage; rw [if_neg (by omega), Int.toNat_natCast]) (by rw [cntB_up c15 (by omega)]; omega) ?_ hfr.S
      exact hP.re0 hb0 rfl rfl (congrArg iI (by show _ = ((cntB (va_up (dm σ) n true) 240 : Nat) : Int); rw [cntB_up c15 (by omega)]; omega)) (hb2.to (fun j _ => upd_b j)) hb3 hb4 hfr rfl rfl rfl
  · have c4 := of_decide_eq_false c4
    refine r_const E dX1_damageSector_7 ?_
    refine e_iret (rm := ({ frames := 1, cells := 0, slots := 0, locals := 20 } : Room)) (v := iI ((-1))) E hL dX1_damageSector_8 ?_
    exact WD_i (by unfold spDamage; rw [if_pos (by omega)]) rfl hP FrS.rf

set_option maxHeartbeats 4000000 in
set_option maxRecDepth 100000 in
theorem c_X1_changeSetting (G : GG) (l : Launch) (b : Nat) (fl : Nat → Option Fil) (σ : St) (hI : Inv σ) (x y : Int) (hx : okI x) (hy : okI y) (hga : G.2.2 ≤ b) : Ct G l yX1_changeSetting cX1_changeSetting 5 (some .int) ({ frames := 1, cells := 0, slots := 0, locals := 20 } : Room) [.ref (b), .int (iI (x)), .int (iI (y))] (fun H => DiscAt G b fl σ H) (WD G b fl (spSet σ x y)) := by
  refine Ct.of (by decide +kernel) (Nat.le_of_ble_eq_true rfl) ?_
  intro p e s m args below meth c ls E hnm hP hl
  have i1 := hI.mn12
  have i2 := hI.nx240
  have hb0 := hP.1
  have hb2 := hP.2.2.1
  have hb3 := hP.2.2.2.1
  have hb4 := hP.2.2.2.2.1
  obtain ⟨hx1, hx2⟩ := hx
  obtain ⟨hy1, hy2⟩ := hy
  have hfr : FrE b s.heap s.heap := FrE.rf
  have hl : lv_has ls 5 [(0, .ref (b)), (1, .int (iI (x))), (2, .int (iI (y)))] := hl
  have hL : Lk G [] := Lk.nil
  generalize ([] : List Loc) = locs at hL ⊢
  refine lv_iload_n E.1 E.2.1 dX1_changeSetting_0 rfl (lv_at hl 1 rfl) ?_
  refine kSNRE (As := [.int (iI (x))]) E cw_X1_119 (c_X5_isSetting G l (x) (by unfold okI; omega)) trivial hL hl.1 rfl rfl (Nat.le_of_ble_eq_true rfl) ⟨Nat.le_of_ble_eq_true rfl, Nat.le_of_ble_eq_true rfl⟩ ⟨rfl, rfl⟩ ⟨Nat.le_of_ble_eq_true rfl, Nat.le_of_ble_eq_true rfl⟩ dX1_changeSetting_1 (fun locs hL => ?_)
  refine r_bif_ne (tgt := 9) E dX1_changeSetting_4 (by decide)  (fun c4 => ?_) (fun c4 => ?_)
  · have c4 := of_decide_eq_true c4
    rcases c4 with rfl | rfl
    · refine lv_iload_n E.1 E.2.1 dX1_changeSetting_9 rfl (lv_at hl 1 rfl) ?_
      refine r_if_ne (tgt := 17) E dX1_changeSetting_10 (by decide) (by omega) (fun c10 => absurd c10 (by omega)) (fun c10 => ?_)
      refine r_const E dX1_changeSetting_13 ?_
      refine lv_goto (tgt := 18) E.1 E.2.1 dX1_changeSetting_14 (by decide) ?_
      refine lv_istore_n (lv' := [(3, .int (iI (2))), (0, .ref (b)), (1, .int (iI (0))), (2, .int (iI (y)))]) E.1 E.2.1 dX1_changeSetting_18 rfl hl (by decide) rfl (fun ls hl => ?_)
      refine lv_iload_n E.1 E.2.1 dX1_changeSetting_19 rfl (lv_at hl 3 rfl) ?_
      refine lv_iload_n E.1 E.2.1 dX1_changeSetting_20 rfl (lv_at hl 0 rfl) ?_
      refine r_icmp_lt (tgt := 30) E dX1_changeSetting_21 (by decide) (by omega) (by omega) (fun c21 => ?_) (fun c21 => ?_)
      · refine r_bipush E dX1_changeSetting_30 (by decide) ?_
        refine e_iret (rm := ({ frames := 1, cells := 0, slots := 0, locals := 20 } : Room)) (v := iI ((-2))) E hL dX1_changeSetting_32 ?_
        exact WD_i (w := -2) (τ := σ) (by unfold spSet; rw [if_neg (by omega)]; first | (rw [if_pos rfl, if_neg (by omega)]; done) | (rw [if_neg (by omega), if_neg (by omega)])) rfl hP FrS.rf
      · refine lv_iload_n E.1 E.2.1 dX1_changeSetting_24 rfl (lv_at hl 3 rfl) ?_
        refine r_bipush E dX1_changeSetting_25 (by decide) ?_
        refine r_icmp_le (tgt := 33) E dX1_changeSetting_27 (by decide) (by omega) (by omega) (fun c27 => ?_) (fun c27 => ?_)
        · refine lv_aload_n E.1 E.2.1 dX1_changeSetting_33 rfl (lv_at hl 1 rfl) ?_
          refine m_get E hb0 fw_X1_25 rfl dX1_changeSetting_34 ?_
          refine lv_iload_n E.1 E.2.1 dX1_changeSetting_37 rfl (lv_at hl 2 rfl) ?_
          refine r_iald E hb4 (0) rfl (by decide) (by decide) dX1_changeSetting_38 ?_
          rw [if_pos rfl]
          refine lv_istore (lv' := [(4, .int (iI ((s0 σ : Int)))), (3, .int (iI (2))), (0, .ref (b)), (1, .int (iI (0))), (2, .int (iI (y)))]) E.1 E.2.1 dX1_changeSetting_39 hl (by decide) rfl (fun ls hl => ?_)
          refine lv_aload_n E.1 E.2.1 dX1_changeSetting_41 rfl (lv_at hl 2 rfl) ?_
          refine m_get E hb0 fw_X1_25 rfl dX1_changeSetting_42 ?_
          refine lv_iload_n E.1 E.2.1 dX1_changeSetting_45 rfl (lv_at hl 3 rfl) ?_
          refine lv_iload_n E.1 E.2.1 dX1_changeSetting_46 rfl (lv_at hl 4 rfl) ?_
          refine r_iast E hb4 (0) rfl (by decide) (by decide) hL (by omega) dX1_changeSetting_47 (fun H1 locs hL hO_ hF_ => ?_)
          have hb0 := hb0.kept (hF_.2 _ (by omega))
          have hb2 := hb2.kept (hF_.2 _ (by omega))
          have hb3 := hb3.kept (hF_.2 _ (by omega))
          have hfr := hfr.one hF_ (by omega)
          have hb4 : Ia G (b + 4) 0 2 (upd (fun k => if k = 0 then iI (s0 σ) else iI (s1 σ)) (0) (iI (y))) H1 := hO_
          clear hO_
          refine lv_iload E.1 E.2.1 dX1_changeSetting_48 (lv_at hl 0 rfl) ?_
          refine e_iret (rm := ({ frames := 1, cells := 0, slots := 0, locals := 20 } : Room)) (v := iI ((s0 σ : Int))) E hL dX1_changeSetting_50 ?_
          refine WD_i (sp := spSet σ 0 y) (by unfold spSet; rw [if_neg (by omega)]; rw [if_pos rfl, if_pos (by omega)]) rfl ?_ hfr.S
          refine hP.re0 hb0 rfl rfl rfl hb2 hb3 (hb4.to (fun j hj => ?_)) hfr rfl rfl rfl
          obtain ⟨v, rfl⟩ : ∃ v : Nat, y = (v : Int) := ⟨y.toNat, by omega⟩
          rcases (show j = 0 ∨ j = 1 by omega) with rfl | rfl <;> rfl
        · refine r_bipush E dX1_changeSetting_30 (by decide) ?_
          refine e_iret (rm := ({ frames := 1, cells := 0, slots := 0, locals := 20 } : Room)) (v := iI ((-2))) E hL dX1_changeSetting_32 ?_
          exact WD_i (w := -2) (τ := σ) (by unfold spSet; rw [if_neg (by omega)]; first | (rw [if_pos rfl, if_neg (by omega)]; done) | (rw [if_neg (by omega), if_neg (by omega)])) rfl hP FrS.rf
    · refine lv_iload_n E.1 E.2.1 dX1_changeSetting_9 rfl (lv_at hl 1 rfl) ?_
      refine r_if_ne (tgt := 17) E dX1_changeSetting_10 (by decide) (by omega) (fun c10 => ?_) (fun c10 => absurd c10 (by omega))
      refine r_const E dX1_changeSetting_17 ?_
      refine lv_istore_n (lv' := [(3, .int (iI (1))), (0, .ref (b)), (1, .int (iI (1))), (2, .int (iI (y)))]) E.1 E.2.1 dX1_changeSetting_18 rfl hl (by decide) rfl (fun ls hl => ?_)
      refine lv_iload_n E.1 E.2.1 dX1_changeSetting_19 rfl (lv_at hl 3 rfl) ?_
      refine lv_iload_n E.1 E.2.1 dX1_changeSetting_20 rfl (lv_at hl 0 rfl) ?_
      refine r_icmp_lt (tgt := 30) E dX1_changeSetting_21 (by decide) (by omega) (by omega) (fun c21 => ?_) (fun c21 => ?_)
      · refine r_bipush E dX1_changeSetting_30 (by decide) ?_
        refine e_iret (rm := ({ frames := 1, cells := 0, slots := 0, locals := 20 } : Room)) (v := iI ((-2))) E hL dX1_changeSetting_32 ?_
        exact WD_i (w := -2) (τ := σ) (by unfold spSet; rw [if_neg (by omega)]; first | (rw [if_pos rfl, if_neg (by omega)]; done) | (rw [if_neg (by omega), if_neg (by omega)])) rfl hP FrS.rf
      · refine lv_iload_n E.1 E.2.1 dX1_changeSetting_24 rfl (lv_at hl 3 rfl) ?_
        refine r_bipush E dX1_changeSetting_25 (by decide) ?_
        refine r_icmp_le (tgt := 33) E dX1_changeSetting_27 (by decide) (by omega) (by omega) (fun c27 => ?_) (fun c27 => ?_)
        · refine lv_aload_n E.1 E.2.1 dX1_changeSetting_33 rfl (lv_at hl 1 rfl) ?_
          refine m_get E hb0 fw_X1_25 rfl dX1_changeSetting_34 ?_
          refine lv_iload_n E.1 E.2.1 dX1_changeSetting_37 rfl (lv_at hl 2 rfl) ?_
          refine r_iald E hb4 (1) rfl (by decide) (by decide) dX1_changeSetting_38 ?_
          rw [if_neg (by decide)]
          refine lv_istore (lv' := [(4, .int (iI ((s1 σ : Int)))), (3, .int (iI (1))), (0, .ref (b)), (1, .int (iI (1))), (2, .int (iI (y)))]) E.1 E.2.1 dX1_changeSetting_39 hl (by decide) rfl (fun ls hl => ?_)
          refine lv_aload_n E.1 E.2.1 dX1_changeSetting_41 rfl (lv_at hl 2 rfl) ?_
          refine m_get E hb0 fw_X1_25 rfl dX1_changeSetting_42 ?_
          refine lv_iload_n E.1 E.2.1 dX1_changeSetting_45 rfl (lv_at hl 3 rfl) ?_
          refine lv_iload_n E.1 E.2.1 dX1_changeSetting_46 rfl (lv_at hl 4 rfl) ?_
          refine r_iast E hb4 (1) rfl (by decide) (by decide) hL (by omega) dX1_changeSetting_47 (fun H1 locs hL hO_ hF_ => ?_)
          have hb0 := hb0.kept (hF_.2 _ (by omega))
          have hb2 := hb2.kept (hF_.2 _ (by omega))
          have hb3 := hb3.kept (hF_.2 _ (by omega))
          have hfr := hfr.one hF_ (by omega)
          have hb4 : Ia G (b + 4) 0 2 (upd (fun k => if k = 0 then iI (s0 σ) else iI (s1 σ)) (1) (iI (y))) H1 := hO_
          clear hO_
          refine lv_iload E.1 E.2.1 dX1_changeSetting_48 (lv_at hl 0 rfl) ?_
          refine e_iret (rm := ({ frames := 1, cells := 0, slots := 0, locals := 20 } : Room)) (v := iI ((s1 σ : Int))) E hL dX1_changeSetting_50 ?_
          refine WD_i (sp := spSet σ 1 y) (by unfold spSet; rw [if_neg (by omega)]; rw [if_neg (by omega), if_pos (by omega)]) rfl ?_ hfr.S
          refine hP.re0 hb0 rfl rfl rfl hb2 hb3 (hb4.to (fun j hj => ?_)) hfr rfl rfl rfl
          obtain ⟨v, rfl⟩ : ∃ v : Nat, y = (v : Int) := ⟨y.toNat, by omega⟩
          rcases (show j = 0 ∨ j = 1 by omega) with rfl | rfl <;> rfl
        · refine r_bipush E dX1_changeSetting_30 (by decide) ?_
          refine e_iret (rm := ({ frames := 1, cells := 0, slots := 0, locals := 20 } : Room)) (v := iI ((-2))) E hL dX1_changeSetting_32 ?_
          exact WD_i (w := -2) (τ := σ) (by unfold spSet; rw [if_neg (by omega)]; first | (rw [if_pos rfl, if_neg (by omega)]; done) | (rw [if_neg (by omega), if_neg (by omega)])) rfl hP FrS.rf
  · have c4 := of_decide_eq_false c4
    refine r_const E dX1_changeSetting_7 ?_
    refine e_iret (rm := ({ frames := 1, cells := 0, slots := 0, locals := 20 } : Room)) (v := iI ((-1))) E hL dX1_changeSetting_8 ?_
    exact WD_i (by unfold spSet; rw [if_pos (by omega)]) rfl hP FrS.rf

set_option maxHeartbeats 4000000 in
set_option maxRecDepth 100000 in
theorem c_X1_removeEntry (G : GG) (l : Launch) (b : Nat) (fl : Nat → Option Fil) (σ : St) (hI : Inv σ) (x : Int) (hx : okI x) (hga : G.2.2 ≤ b) : Ct G l yX1_removeEntry cX1_removeEntry 3 (some .int) ({ frames := 2, cells := 0, slots := 0, locals := 42 } : Room) [.ref (b), .int (iI (x))] (fun H => DiscAt G b fl σ H) (WD G b fl (spRemove σ x)) := by
  refine Ct.of (by decide +kernel) (Nat.le_of_ble_eq_true rfl) ?_
  intro p e s m args below meth c ls E hnm hP hl
  have i1 := hI.mn12
  have i2 := hI.nx240
  have hb0 := hP.1
  have hb2 := hP.2.2.1
  have hb3 := hP.2.2.2.1
  have hb4 := hP.2.2.2.2.1
  obtain ⟨hx1, hx2⟩ := hx
  have hl : lv_has ls 3 [(0, .ref (b)), (1, .int (iI (x)))] := hl
  have hL : Lk G [] := Lk.nil
  generalize ([] : List Loc) = locs at hL ⊢
  refine lv_iload_n E.1 E.2.1 dX1_removeEntry_0 rfl (lv_at hl 1 rfl) ?_
  refine kSNRE (As := [.int (iI (x))]) E cw_X1_65 (c_X5_isName G l (x) (by unfold okI; omega)) trivial hL hl.1 rfl rfl (Nat.le_of_ble_eq_true rfl) ⟨Nat.le_of_ble_eq_true rfl, Nat.le_of_ble_eq_true rfl⟩ ⟨rfl, rfl⟩ ⟨Nat.le_of_ble_eq_true rfl, Nat.le_of_ble_eq_true rfl⟩ dX1_removeEntry_1 (fun locs hL => ?_)
  refine r_bif_ne (tgt := 9) E dX1_removeEntry_4 (by decide)  (fun c4 => ?_) (fun c4 => ?_)
  · have c4 := of_decide_eq_true c4
    obtain ⟨k, rfl⟩ : ∃ k : Nat, x = (k : Int) := ⟨x.toNat, by omega⟩
    refine lv_aload_n E.1 E.2.1 dX1_removeEntry_9 rfl (lv_at hl 0 rfl) ?_
    refine kVQE (As := []) E cw_X1_43 (c_X1_openSession G l b fl σ hI) hP.1 ⟨_, _, rfl⟩ hP hL hl.1 rfl rfl (Nat.le_of_ble_eq_true rfl) ⟨Nat.le_of_ble_eq_true rfl, Nat.le_of_ble_eq_true rfl⟩ ⟨rfl, rfl⟩ ⟨Nat.le_of_ble_eq_true rfl, Nat.le_of_ble_eq_true rfl⟩ dX1_removeEntry_10 (fun locs hL => ?_)
    rcases hop : opn σ with _ | n
    · refine lv_astore_nN (lv' := [(2, .null), (0, .ref (b)), (1, .int (iI ((k : Int))))]) E.1 E.2.1 dX1_removeEntry_13 rfl hl (by decide) rfl (fun ls hl => ?_)
      refine lv_aload_nN E.1 E.2.1 dX1_removeEntry_14 rfl (lv_at hl 0 rfl) ?_
      refine lv_ifnullN (tgt := 26) E.1 E.2.1 dX1_removeEntry_15 (by decide) ?_
      refine r_bipush E dX1_removeEntry_26 (by decide) ?_
      refine e_iret (rm := ({ frames := 2, cells := 0, slots := 0, locals := 42 } : Room)) (v := iI ((-5))) E hL dX1_removeEntry_28 ?_
      refine WD_i (w := -5) (τ := σ) ?_ rfl hP FrS.rf
      unfold spRemove
      rw [if_neg (by omega), Int.toNat_natCast, hop]
      all_goals first | rfl | (simp only [← he]; rfl)
    · have hn := (opn_some hop).1
      have hn0 := (opn_some hop).2
      have hrow := hI.row (n := n) (by omega)
      obtain ⟨t_, ho_, hr_, ht_⟩ := hP.live (n := n) (by omega) (by omega)
      refine lv_astore_n (lv' := [(2, .ref (b + 5 + 2 * n)), (0, .ref (b)), (1, .int (iI ((k : Int))))]) E.1 E.2.1 dX1_removeEntry_13 rfl hl (by decide) rfl (fun ls hl => ?_)
      refine lv_aload_n E.1 E.2.1 dX1_removeEntry_14 rfl (lv_at hl 0 rfl) ?_
      refine lv_ifnull E.1 E.2.1 dX1_removeEntry_15 ?_
      have hfr : FrD b n s.heap s.heap := FrD.rf
      refine lv_aload_n E.1 E.2.1 dX1_removeEntry_18 rfl (lv_at hl 0 rfl) ?_
      refine lv_iload_n E.1 E.2.1 dX1_removeEntry_19 rfl (lv_at hl 2 rfl) ?_
      refine kVQE (As := [.int (iI ((k : Int)))]) E cw_X1_90 (c_fileOf_in G l (b + 5 + 2 * n) (k) (encR (se σ n)) t_ (by omega)) ho_ ⟨_, _, rfl⟩ ⟨ho_, hr_⟩ hL hl.1 rfl rfl (Nat.le_of_ble_eq_true rfl) ⟨Nat.le_of_ble_eq_true rfl, Nat.le_of_ble_eq_true rfl⟩ ⟨rfl, rfl⟩ ⟨Nat.le_of_ble_eq_true rfl, Nat.le_of_ble_eq_true rfl⟩ dX1_removeEntry_20 (fun locs hL => ?_)
      rcases htk : t_ (k) with _ | a
      · have he : none = en σ n (k) := by have h9 := (ht_ (k) (by omega)).1; rw [htk] at h9; exact h9
        refine lv_ifnonnullN E.1 E.2.1 dX1_removeEntry_23 ?_
        refine r_bipush E dX1_removeEntry_26 (by decide) ?_
        refine e_iret (rm := ({ frames := 2, cells := 0, slots := 0, locals := 42 } : Room)) (v := iI ((-5))) E hL dX1_removeEntry_28 ?_
        refine WD_i (w := -5) (τ := σ) ?_ rfl hP FrS.rf
        unfold spRemove
        rw [if_neg (by omega), Int.toNat_natCast, hop]
        all_goals first | rfl | (simp only [← he]; rfl)
      · obtain ⟨f, hf⟩ := (ht_ (k) (by omega)).2 a htk
        have he : some f = en σ n (k) := by have h9 := (ht_ (k) (by omega)).1; rw [htk] at h9; rw [← h9]; exact hf.symm
        refine lv_ifnonnull (tgt := 29) E.1 E.2.1 dX1_removeEntry_23 (by decide) ?_
        refine lv_aload_n E.1 E.2.1 dX1_removeEntry_29 rfl (lv_at hl 0 rfl) ?_
        refine lv_iload_n E.1 E.2.1 dX1_removeEntry_30 rfl (lv_at hl 2 rfl) ?_
        refine lv_null E.1 E.2.1 dX1_removeEntry_31 ?_
        refine kVWV (As := [.int (iI ((k : Int))), .null]) E cw_X1_80 (c_X3_putFile G l (b + 5 + 2 * n) ((k : Int)) none (encR (se σ n)) t_ (by omega) (by omega)) ho_ ⟨_, _, rfl⟩ ⟨⟨ho_, hr_⟩, (fun _ h => by cases h)⟩ hL hl.1 rfl rfl (Nat.le_of_ble_eq_true rfl) ⟨Nat.le_of_ble_eq_true rfl, Nat.le_of_ble_eq_true rfl⟩ ⟨Nat.le_of_ble_eq_true rfl, Nat.le_of_ble_eq_true rfl⟩ dX1_removeEntry_32 (fun H1 locs hL hw_ => ?_)
        obtain ⟨⟨ho1, hr1⟩, hq⟩ := hw_
        rw [Int.toNat_natCast] at hr1
        have hb0 := hb0.kept (hq.2 _ (by omega))
        have hb2 := hb2.kept (hq.2 _ (by omega))
        have hb3 := hb3.kept (hq.2 _ (by omega))
        have hb4 := hb4.kept (hq.2 _ (by omega))
        have hfr := hfr.ses hq (by omega) (by omega)
        have ho_ : Ob G (b + 5 + 2 * n) 3 [.ref (b + 5 + 2 * n + 1), .int (iI ((se σ n 0 : Int))), .int (iI ((se σ n 1 : Int))), .int (iI (((se σ n 1 : Int) + (se σ n 2 : Int)))), .int (iI ((se σ n 3 : Int))), .int (iI ((se σ n 4 : Int))), .int (iI ((se σ n 5 : Int)))] H1 := ho1
        have hr_ := hr1
        refine lv_aload_n E.1 E.2.1 dX1_removeEntry_35 rfl (lv_at hl 0 rfl) ?_
        refine kVRE (As := []) E cw_X1_94 (c_X3_countEntries G l (b + 5 + 2 * n) (encR (se σ n)) (va_up t_ k none)) ho_ ⟨_, _, rfl⟩ ⟨ho_, hr_⟩ hL hl.1 rfl rfl (Nat.le_of_ble_eq_true rfl) ⟨Nat.le_of_ble_eq_true rfl, Nat.le_of_ble_eq_true rfl⟩ ⟨rfl, rfl⟩ ⟨Nat.le_of_ble_eq_true rfl, Nat.le_of_ble_eq_true rfl⟩ dX1_removeEntry_36 (fun locs hL => ?_)
        refine e_iret (rm := ({ frames := 2, cells := 0, slots := 0, locals := 42 } : Room)) (v := iI ((cntB (fun j => (va_up t_ k none j).isSome) 20 : Int))) E hL dX1_removeEntry_39 ?_
        have hsp : spRemove σ k = (((entriesN (mkS (nx σ) (mn σ) (s0 σ) (s1 σ) (dm σ) (vr σ) (se σ) (va_up (en σ) n (va_up (en σ n) k none))) n : Nat) : Int), mkS (nx σ) (mn σ) (s0 σ) (s1 σ) (dm σ) (vr σ) (se σ) (va_up (en σ) n (va_up (en σ n) k none))) := by
          unfold spRemove
          rw [if_neg (by omega), Int.toNat_natCast, hop]
          simp only []
          rw [if_pos (by rw [← he]; rfl)]
        have hto : TabOk fl (va_up t_ k none) (va_up (en σ) n (va_up (en σ n) k none) n) := by
          rw [up_s]
          exact ht_.up rfl (fun a h => by cases h)
        refine WD_i hsp (congrArg (fun z : Nat => (z : Int)) (cntB_congr (fun j hj => hto.some hj))) ?_ (hfr.S (by omega))
        refine hP.re (n := n) hb0 rfl rfl rfl hb2 hb3 hb4 (by omega) ?_ hfr (fun j hj hj2 => ⟨hj2, rfl, up_n hj⟩)
        exact SesL.mk2 ho_ hr_ hto rfl rfl rfl rfl rfl rfl
  · have c4 := of_decide_eq_false c4
    refine r_const E dX1_removeEntry_7 ?_
    refine e_iret (rm := ({ frames := 2, cells := 0, slots := 0, locals := 42 } : Room)) (v := iI ((-1))) E hL dX1_removeEntry_8 ?_
    exact WD_i (by unfold spRemove; rw [if_pos (by omega)]) rfl hP FrS.rf

set_option maxHeartbeats 4000000 in
set_option maxRecDepth 100000 in
theorem c_X1_keepEntry (G : GG) (l : Launch) (b fb : Nat) (fl : Nat → Option Fil) (σ : St) (hI : Inv σ) (x y : Int) (hx : okI x) (hy : okI y) (hga : G.2.2 ≤ b) (hfb : b + 29 ≤ fb) : Ct G l yX1_keepEntry cX1_keepEntry 6 (some .int) ({ frames := 3, cells := 0, slots := 0, locals := 71 } : Room) [.ref (b), .int (iI (x)), .int (iI (y))] (fun H => DiscAt G b fl σ H ∧ FlAt G fb fl H) (WD G b fl (spKeep σ x y)) := by
  refine Ct.of (by decide +kernel) (Nat.le_of_ble_eq_true rfl) ?_
  intro p e s m args below meth c ls E hnm hP hl
  have i1 := hI.mn12
  have i2 := hI.nx240
  obtain ⟨hP, hFl⟩ := hP
  have hb0 := hP.1
  have hb2 := hP.2.2.1
  have hb3 := hP.2.2.2.1
  have hb4 := hP.2.2.2.2.1
  obtain ⟨hx1, hx2⟩ := hx
  obtain ⟨hy1, hy2⟩ := hy
  have hl : lv_has ls 6 [(0, .ref (b)), (1, .int (iI (x))), (2, .int (iI (y)))] := hl
  have hL : Lk G [] := Lk.nil
  generalize ([] : List Loc) = locs at hL ⊢
  refine lv_aload_n E.1 E.2.1 dX1_keepEntry_0 rfl (lv_at hl 0 rfl) ?_
  refine lv_iload_n E.1 E.2.1 dX1_keepEntry_1 rfl (lv_at hl 2 rfl) ?_
  by_cases h0 : 0 ≤ y ∧ y < mn σ
  · obtain ⟨j, rfl⟩ : ∃ j : Nat, y = (j : Int) := ⟨y.toNat, by omega⟩
    have hrowj := hI.row (n := j) (by omega)
    refine kVQE (As := [.int (iI ((j : Int)))]) E cw_X1_51 (c_sessionAt_s G l b fl σ hI j (by omega)) hP.1 ⟨_, _, rfl⟩ hP hL hl.1 rfl rfl (Nat.le_of_ble_eq_true rfl) ⟨Nat.le_of_ble_eq_true rfl, Nat.le_of_ble_eq_true rfl⟩ ⟨rfl, rfl⟩ ⟨Nat.le_of_ble_eq_true rfl, Nat.le_of_ble_eq_true rfl⟩ dX1_keepEntry_2 (fun locs hL => ?_)
    refine lv_astore_n (lv' := [(3, .ref (b + 5 + 2 * j)), (0, .ref (b)), (1, .int (iI (x))), (2, .int (iI ((j : Int))))]) E.1 E.2.1 dX1_keepEntry_5 rfl hl (by decide) rfl (fun ls hl => ?_)
    refine lv_iload_n E.1 E.2.1 dX1_keepEntry_6 rfl (lv_at hl 2 rfl) ?_
    refine kSNRE (As := [.int (iI (x))]) E cw_X1_65 (c_X5_isName G l (x) (by unfold okI; omega)) trivial hL hl.1 rfl rfl (Nat.le_of_ble_eq_true rfl) ⟨Nat.le_of_ble_eq_true rfl, Nat.le_of_ble_eq_true rfl⟩ ⟨rfl, rfl⟩ ⟨Nat.le_of_ble_eq_true rfl, Nat.le_of_ble_eq_true rfl⟩ dX1_keepEntry_7 (fun locs hL => ?_)
    refine r_bif_eq (tgt := 17) E dX1_keepEntry_10 (by decide)  (fun c10 => ?_) (fun c10 => ?_)
    · have c10 := of_decide_eq_false c10
      refine r_const E dX1_keepEntry_17 ?_
      refine e_iret (rm := ({ frames := 3, cells := 0, slots := 0, locals := 71 } : Room)) (v := iI ((-1))) E hL dX1_keepEntry_18 ?_
      exact WD_i (by unfold spKeep; rw [if_pos (by omega)]) rfl hP FrS.rf
    · have c10 := of_decide_eq_true c10
      obtain ⟨k, rfl⟩ : ∃ k : Nat, x = (k : Int) := ⟨x.toNat, by omega⟩
      refine lv_aload_n E.1 E.2.1 dX1_keepEntry_13 rfl (lv_at hl 0 rfl) ?_
      refine lv_ifnonnull (tgt := 19) E.1 E.2.1 dX1_keepEntry_14 (by decide) ?_
      refine lv_aload_n E.1 E.2.1 dX1_keepEntry_19 rfl (lv_at hl 1 rfl) ?_
      refine kVQE (As := []) E cw_X1_43 (c_X1_openSession G l b fl σ hI) hP.1 ⟨_, _, rfl⟩ hP hL hl.1 rfl rfl (Nat.le_of_ble_eq_true rfl) ⟨Nat.le_of_ble_eq_true rfl, Nat.le_of_ble_eq_true rfl⟩ ⟨rfl, rfl⟩ ⟨Nat.le_of_ble_eq_true rfl, Nat.le_of_ble_eq_true rfl⟩ dX1_keepEntry_20 (fun locs hL => ?_)
      rcases hop : opn σ with _ | n
      · refine lv_astoreN (lv' := [(4, .null), (3, .ref (b + 5 + 2 * j)), (0, .ref (b)), (1, .int (iI ((k : Int)))), (2, .int (iI ((j : Int))))]) E.1 E.2.1 dX1_keepEntry_23 hl (by decide) rfl (fun ls hl => ?_)
        refine lv_aloadN E.1 E.2.1 dX1_keepEntry_25 (lv_at hl 0 rfl) ?_
        refine lv_ifnullN (tgt := 39) E.1 E.2.1 dX1_keepEntry_27 (by decide) ?_
        refine r_bipush E dX1_keepEntry_39 (by decide) ?_
        refine e_iret (rm := ({ frames := 3, cells := 0, slots := 0, locals := 71 } : Room)) (v := iI ((-5))) E hL dX1_keepEntry_41 ?_
        refine WD_i (w := -5) (τ := σ) ?_ rfl hP FrS.rf
        unfold spKeep
        rw [if_neg (by omega), Int.toNat_natCast, Int.toNat_natCast, hop]
        all_goals first | rfl | (simp only []; rw [if_neg (by rw [c36]; decide)]; done) | (simp only []; rw [if_pos c36]; simp only [← he])
      · have hn := (opn_some hop).1
        have hn0 := (opn_some hop).2
        have hrow := hI.row (n := n) (by omega)
        refine lv_astore (lv' := [(4, .ref (b + 5 + 2 * n)), (3, .ref (b + 5 + 2 * j)), (0, .ref (b)), (1, .int (iI ((k : Int)))), (2, .int (iI ((j : Int))))]) E.1 E.2.1 dX1_keepEntry_23 hl (by decide) rfl (fun ls hl => ?_)
        refine lv_aload E.1 E.2.1 dX1_keepEntry_25 (lv_at hl 0 rfl) ?_
        refine lv_ifnull E.1 E.2.1 dX1_keepEntry_27 ?_
        refine lv_aload_n E.1 E.2.1 dX1_keepEntry_30 rfl (lv_at hl 2 rfl) ?_
        refine lv_aload_n E.1 E.2.1 dX1_keepEntry_31 rfl (lv_at hl 1 rfl) ?_
        refine r_const E dX1_keepEntry_32 ?_
        refine kVRE (As := [.ref (b + 5 + 2 * j), .int (iI ((-1)))]) E cw_X1_97 (c_X1_isReadableIf G l b fl σ hI (j) ((-1)) (by unfold okI; omega) (by omega)) hP.1 ⟨_, _, rfl⟩ hP hL hl.1 rfl rfl (Nat.le_of_ble_eq_true rfl) ⟨Nat.le_of_ble_eq_true rfl, Nat.le_of_ble_eq_true rfl⟩ ⟨rfl, rfl⟩ ⟨Nat.le_of_ble_eq_true rfl, Nat.le_of_ble_eq_true rfl⟩ dX1_keepEntry_33 (fun locs hL => ?_)
        rw [dmH_m1 (σ := σ) (h := -1) (by decide)]
        refine r_bif_ne (tgt := 42) E dX1_keepEntry_36 (by decide)  (fun c36 => ?_) (fun c36 => ?_)
        · obtain ⟨t_, ho_, hr_, ht_⟩ := hP.live (n := j) (by omega) (by omega)
          refine lv_aload_n E.1 E.2.1 dX1_keepEntry_42 rfl (lv_at hl 1 rfl) ?_
          refine lv_iload_n E.1 E.2.1 dX1_keepEntry_43 rfl (lv_at hl 3 rfl) ?_
          refine kVQE (As := [.int (iI ((k : Int)))]) E cw_X1_90 (c_fileOf_in G l (b + 5 + 2 * j) (k) (encR (se σ j)) t_ (by omega)) ho_ ⟨_, _, rfl⟩ ⟨ho_, hr_⟩ hL hl.1 rfl rfl (Nat.le_of_ble_eq_true rfl) ⟨Nat.le_of_ble_eq_true rfl, Nat.le_of_ble_eq_true rfl⟩ ⟨rfl, rfl⟩ ⟨Nat.le_of_ble_eq_true rfl, Nat.le_of_ble_eq_true rfl⟩ dX1_keepEntry_44 (fun locs hL => ?_)
          rcases htk : t_ (k) with _ | a
          · have he : none = en σ j (k) := by have h9 := (ht_ (k) (by omega)).1; rw [htk] at h9; exact h9
            refine lv_astoreN (lv' := [(5, .null), (4, .ref (b + 5 + 2 * n)), (3, .ref (b + 5 + 2 * j)), (0, .ref (b)), (1, .int (iI ((k : Int)))), (2, .int (iI ((j : Int))))]) E.1 E.2.1 dX1_keepEntry_47 hl (by decide) rfl (fun ls hl => ?_)
            refine lv_aloadN E.1 E.2.1 dX1_keepEntry_49 (lv_at hl 0 rfl) ?_
            refine lv_ifnonnullN E.1 E.2.1 dX1_keepEntry_51 ?_
            refine r_bipush E dX1_keepEntry_54 (by decide) ?_
            refine e_iret (rm := ({ frames := 3, cells := 0, slots := 0, locals := 71 } : Room)) (v := iI ((-5))) E hL dX1_keepEntry_56 ?_
            refine WD_i (w := -5) (τ := σ) ?_ rfl hP FrS.rf
            unfold spKeep
            rw [if_neg (by omega), Int.toNat_natCast, Int.toNat_natCast, hop]
            all_goals first | rfl | (simp only []; rw [if_neg (by rw [c36]; decide)]; done) | (simp only []; rw [if_pos c36]; simp only [← he])
          · obtain ⟨f, hf⟩ := (ht_ (k) (by omega)).2 a htk
            have he : some f = en σ j (k) := by have h9 := (ht_ (k) (by omega)).1; rw [htk] at h9; rw [← h9]; exact hf.symm
            refine lv_astore (lv' := [(5, .ref (a)), (4, .ref (b + 5 + 2 * n)), (3, .ref (b + 5 + 2 * j)), (0, .ref (b)), (1, .int (iI ((k : Int)))), (2, .int (iI ((j : Int))))]) E.1 E.2.1 dX1_keepEntry_47 hl (by decide) rfl (fun ls hl => ?_)
            refine lv_aload E.1 E.2.1 dX1_keepEntry_49 (lv_at hl 0 rfl) ?_
            refine lv_ifnonnull (tgt := 57) E.1 E.2.1 dX1_keepEntry_51 (by decide) ?_
            have hfo := hFl.2 a f hf
            have hof := hfo.2
            have hfr : FrD b n s.heap s.heap := FrD.rf
            obtain ⟨t_, ho_, hr_, ht_⟩ := hP.live (n := n) (by omega) (by omega)
            refine lv_aload E.1 E.2.1 dX1_keepEntry_57 (lv_at hl 1 rfl) ?_
            refine lv_iload_n E.1 E.2.1 dX1_keepEntry_59 rfl (lv_at hl 4 rfl) ?_
            refine lv_aload E.1 E.2.1 dX1_keepEntry_60 (lv_at hl 0 rfl) ?_
            refine kVWV (As := [.int (iI ((k : Int))), .ref (a)]) E cw_X1_80 (c_X3_putFile G l (b + 5 + 2 * n) ((k : Int)) (some (a)) (encR (se σ n)) t_ (by omega) (by omega)) ho_ ⟨_, _, rfl⟩ ⟨⟨ho_, hr_⟩, (fun _ h => by cases h; exact ⟨_, hof⟩)⟩ hL hl.1 rfl rfl (Nat.le_of_ble_eq_true rfl) ⟨Nat.le_of_ble_eq_true rfl, Nat.le_of_ble_eq_true rfl⟩ ⟨Nat.le_of_ble_eq_true rfl, Nat.le_of_ble_eq_true rfl⟩ dX1_keepEntry_62 (fun H1 locs hL hw_ => ?_)
            obtain ⟨⟨ho1, hr1⟩, hq⟩ := hw_
            rw [Int.toNat_natCast] at hr1
            have hb0 := hb0.kept (hq.2 _ (by omega))
            have hb2 := hb2.kept (hq.2 _ (by omega))
            have hb3 := hb3.kept (hq.2 _ (by omega))
            have hb4 := hb4.kept (hq.2 _ (by omega))
            have hof := hof.kept (hq.2 _ (by omega))
            have hfr := hfr.ses hq (by omega) (by omega)
            have ho_ : Ob G (b + 5 + 2 * n) 3 [.ref (b + 5 + 2 * n + 1), .int (iI ((se σ n 0 : Int))), .int (iI ((se σ n 1 : Int))), .int (iI (((se σ n 1 : Int) + (se σ n 2 : Int)))), .int (iI ((se σ n 3 : Int))), .int (iI ((se σ n 4 : Int))), .int (iI ((se σ n 5 : Int)))] H1 := ho1
            have hr_ := hr1
            refine lv_aload E.1 E.2.1 dX1_keepEntry_65 (lv_at hl 0 rfl) ?_
            refine m_get E hof fw_X1_87 rfl dX1_keepEntry_67 ?_
            refine e_iret (rm := ({ frames := 3, cells := 0, slots := 0, locals := 71 } : Room)) (v := iI ((f.1 : Int))) E hL dX1_keepEntry_70 ?_
            have hsp : spKeep σ k j = ((f.1 : Int), mkS (nx σ) (mn σ) (s0 σ) (s1 σ) (dm σ) (vr σ) (se σ) (va_up (en σ) n (va_up (en σ n) k (some f)))) := by
              unfold spKeep
              rw [if_neg (by omega), Int.toNat_natCast, Int.toNat_natCast, hop]
              simp only []
              rw [if_pos c36]
              simp only [← he]
            have hto : TabOk fl (va_up t_ k (some a)) (va_up (en σ) n (va_up (en σ n) k (some f)) n) := by
              rw [up_s]
              exact ht_.up hf (fun a2 h => by cases h; exact ⟨_, hf⟩)
            refine WD_i hsp rfl ?_ (hfr.S (by omega))
            refine hP.re (n := n) hb0 rfl rfl rfl hb2 hb3 hb4 (by omega) ?_ hfr (fun j hj hj2 => ⟨hj2, rfl, up_n hj⟩)
            exact SesL.mk2 ho_ hr_ hto rfl rfl rfl rfl rfl rfl
        · refine r_bipush E dX1_keepEntry_39 (by decide) ?_
          refine e_iret (rm := ({ frames := 3, cells := 0, slots := 0, locals := 71 } : Room)) (v := iI ((-5))) E hL dX1_keepEntry_41 ?_
          refine WD_i (w := -5) (τ := σ) ?_ rfl hP FrS.rf
          unfold spKeep
          rw [if_neg (by omega), Int.toNat_natCast, Int.toNat_natCast, hop]
          all_goals first | rfl | (simp only []; rw [if_neg (by rw [c36]; decide)]; done) | (simp only []; rw [if_pos c36]; simp only [← he])
  · refine kVQE (As := [.int (iI (y))]) E cw_X1_51 (c_sessionAt_n G l b fl σ hI (y) (by unfold okI; omega) (by omega)) hP.1 ⟨_, _, rfl⟩ hP hL hl.1 rfl rfl (Nat.le_of_ble_eq_true rfl) ⟨Nat.le_of_ble_eq_true rfl, Nat.le_of_ble_eq_true rfl⟩ ⟨rfl, rfl⟩ ⟨Nat.le_of_ble_eq_true rfl, Nat.le_of_ble_eq_true rfl⟩ dX1_keepEntry_2 (fun locs hL => ?_)
    refine lv_astore_nN (lv' := [(3, .null), (0, .ref (b)), (1, .int (iI (x))), (2, .int (iI (y)))]) E.1 E.2.1 dX1_keepEntry_5 rfl hl (by decide) rfl (fun ls hl => ?_)
    refine lv_iload_n E.1 E.2.1 dX1_keepEntry_6 rfl (lv_at hl 2 rfl) ?_
    refine kSNRE (As := [.int (iI (x))]) E cw_X1_65 (c_X5_isName G l (x) (by unfold okI; omega)) trivial hL hl.1 rfl rfl (Nat.le_of_ble_eq_true rfl) ⟨Nat.le_of_ble_eq_true rfl, Nat.le_of_ble_eq_true rfl⟩ ⟨rfl, rfl⟩ ⟨Nat.le_of_ble_eq_true rfl, Nat.le_of_ble_eq_true rfl⟩ dX1_keepEntry_7 (fun locs hL => ?_)
    refine r_bif_eq (tgt := 17) E dX1_keepEntry_10 (by decide)  (fun c10 => ?_) (fun c10 => ?_)
    · have c10 := of_decide_eq_false c10
      refine r_const E dX1_keepEntry_17 ?_
      refine e_iret (rm := ({ frames := 3, cells := 0, slots := 0, locals := 71 } : Room)) (v := iI ((-1))) E hL dX1_keepEntry_18 ?_
      exact WD_i (by unfold spKeep; rw [if_pos (by omega)]) rfl hP FrS.rf
    · have c10 := of_decide_eq_true c10
      obtain ⟨k, rfl⟩ : ∃ k : Nat, x = (k : Int) := ⟨x.toNat, by omega⟩
      refine lv_aload_nN E.1 E.2.1 dX1_keepEntry_13 rfl (lv_at hl 0 rfl) ?_
      refine lv_ifnonnullN E.1 E.2.1 dX1_keepEntry_14 ?_
      refine r_const E dX1_keepEntry_17 ?_
      refine e_iret (rm := ({ frames := 3, cells := 0, slots := 0, locals := 71 } : Room)) (v := iI ((-1))) E hL dX1_keepEntry_18 ?_
      exact WD_i (by unfold spKeep; rw [if_pos (by omega)]) rfl hP FrS.rf
end
section
set_option maxHeartbeats 4000000 in
set_option maxRecDepth 100000 in
theorem c_X1_beginSession (G : GG) (l : Launch) (b fb : Nat) (fl : Nat → Option Fil) (σ : St) (hI : Inv σ) (x : Int) (hx : okI x) (hga : G.2.2 ≤ b) (hfb : b + 29 ≤ fb) : Ct G l yX1_beginSession cX1_beginSession 5 (some .int) ({ frames := 4, cells := 0, slots := 0, locals := 94 } : Room) [.ref (b), .int (iI (x))] (fun H => DiscAt G b fl σ H ∧ FlAt G fb fl H) (WD G b fl (spBegin σ x)) := by
  refine Ct.of (by decide +kernel) (Nat.le_of_ble_eq_true rfl) ?_
  intro p e s m args below meth c ls E hnm hP hl
  have i1 := hI.mn12
  have i2 := hI.nx240
  obtain ⟨hP, hFl⟩ := hP
  have hb0 := hP.1
  have hb2 := hP.2.2.1
  have hb3 := hP.2.2.2.1
  have hb4 := hP.2.2.2.2.1
  obtain ⟨hx1, hx2⟩ := hx
  have i3 := hI.s0b
  have i4 := hI.s1b
  have hl : lv_has ls 5 [(0, .ref (b)), (1, .int (iI (x)))] := hl
  have hL : Lk G [] := Lk.nil
  generalize ([] : List Loc) = locs at hL ⊢
  refine lv_iload_n E.1 E.2.1 dX1_beginSession_0 rfl (lv_at hl 1 rfl) ?_
  refine r_if_eq (tgt := 12) E dX1_beginSession_1 (by decide) (by omega) (fun c1 => ?_) (fun c1 => ?_)
  · refine lv_aload_n E.1 E.2.1 dX1_beginSession_12 rfl (lv_at hl 0 rfl) ?_
    refine kVQE (As := []) E cw_X1_43 (c_X1_openSession G l b fl σ hI) hP.1 ⟨_, _, rfl⟩ hP hL hl.1 rfl rfl (Nat.le_of_ble_eq_true rfl) ⟨Nat.le_of_ble_eq_true rfl, Nat.le_of_ble_eq_true rfl⟩ ⟨rfl, rfl⟩ ⟨Nat.le_of_ble_eq_true rfl, Nat.le_of_ble_eq_true rfl⟩ dX1_beginSession_13 (fun locs hL => ?_)
    rcases hop : opn σ with _ | n
    · refine lv_ifnullN (tgt := 22) E.1 E.2.1 dX1_beginSession_16 (by decide) ?_
      refine lv_aload_n E.1 E.2.1 dX1_beginSession_22 rfl (lv_at hl 0 rfl) ?_
      refine m_get E hb0 fw_X1_25 rfl dX1_beginSession_23 ?_
      refine r_const E dX1_beginSession_26 ?_
      refine r_iald E hb4 (0) rfl (by decide) (by decide) dX1_beginSession_27 ?_
      rw [if_pos rfl]
      refine lv_aload_n E.1 E.2.1 dX1_beginSession_28 rfl (lv_at hl 0 rfl) ?_
      refine m_get E hb0 fw_X1_25 rfl dX1_beginSession_29 ?_
      refine r_const E dX1_beginSession_32 ?_
      refine r_iald E hb4 (1) rfl (by decide) (by decide) dX1_beginSession_33 ?_
      rw [if_neg (by decide)]
      refine r_add E dX1_beginSession_34 ?_
      refine lv_istore_n (lv' := [(2, .int (iI ((s0 σ : Int) + (s1 σ : Int)))), (0, .ref (b)), (1, .int (iI (x)))]) E.1 E.2.1 dX1_beginSession_35 rfl hl (by decide) rfl (fun ls hl => ?_)
      refine lv_aload_n E.1 E.2.1 dX1_beginSession_36 rfl (lv_at hl 1 rfl) ?_
      refine m_get E hb0 fw_X1_29 rfl dX1_beginSession_37 ?_
      refine r_bipush E dX1_beginSession_40 (by decide) ?_
      refine r_icmp_ge (tgt := 57) E dX1_beginSession_42 (by decide) (by omega) (by omega) (fun c42 => ?_) (fun c42 => ?_)
      · refine r_bipush E dX1_beginSession_57 (by decide) ?_
        refine e_iret (rm := ({ frames := 4, cells := 0, slots := 0, locals := 94 } : Room)) (v := iI ((-4))) E hL dX1_beginSession_59 ?_
        exact WD_i (w := -4) (τ := σ) (by unfold spBegin; rw [if_neg (by omega), if_neg (by rw [hop]; decide), if_pos (by omega)]) rfl hP FrS.rf
      · refine lv_aload_n E.1 E.2.1 dX1_beginSession_45 rfl (lv_at hl 1 rfl) ?_
        refine m_get E hb0 fw_X1_33 rfl dX1_beginSession_46 ?_
        refine lv_iload_n E.1 E.2.1 dX1_beginSession_49 rfl (lv_at hl 0 rfl) ?_
        refine r_add E dX1_beginSession_50 ?_
        refine r_sipush E dX1_beginSession_51 (by decide) ?_
        refine r_icmp_le (tgt := 60) E dX1_beginSession_54 (by decide) (by omega) (by omega) (fun c54 => ?_) (fun c54 => ?_)
        · refine lv_aload_n E.1 E.2.1 dX1_beginSession_60 rfl (lv_at hl 1 rfl) ?_
          refine lv_aload_n E.1 E.2.1 dX1_beginSession_61 rfl (lv_at hl 1 rfl) ?_
          refine r_const E dX1_beginSession_62 ?_
          refine kVRE (As := [.int (iI ((-1)))]) E cw_X1_47 (c_X1_validNumberIf G l b fl σ hI ((-1)) (by unfold okI; omega)) hP.1 ⟨_, _, rfl⟩ hP hL hl.1 rfl rfl (Nat.le_of_ble_eq_true rfl) ⟨Nat.le_of_ble_eq_true rfl, Nat.le_of_ble_eq_true rfl⟩ ⟨rfl, rfl⟩ ⟨Nat.le_of_ble_eq_true rfl, Nat.le_of_ble_eq_true rfl⟩ dX1_beginSession_63 (fun locs hL => ?_)
          rw [dmH_m1 (σ := σ) (h := -1) (by decide)]
          rcases hv : validD σ (dm σ) with _ | v
          · rw [show oI none = -6 from rfl]
            refine kVQE (As := [.int (iI ((-6)))]) E cw_X1_51 (c_sessionAt_n G l b fl σ hI ((-6)) (by unfold okI; omega) (by omega)) hP.1 ⟨_, _, rfl⟩ hP hL hl.1 rfl rfl (Nat.le_of_ble_eq_true rfl) ⟨Nat.le_of_ble_eq_true rfl, Nat.le_of_ble_eq_true rfl⟩ ⟨rfl, rfl⟩ ⟨Nat.le_of_ble_eq_true rfl, Nat.le_of_ble_eq_true rfl⟩ dX1_beginSession_66 (fun locs hL => ?_)
            refine lv_astore_nN (lv' := [(3, .null), (2, .int (iI ((s0 σ : Int) + (s1 σ : Int)))), (0, .ref (b)), (1, .int (iI (x)))]) E.1 E.2.1 dX1_beginSession_69 rfl hl (by decide) rfl (fun ls hl => ?_)
            have hses := hP.2.1
            refine lv_aload_n E.1 E.2.1 dX1_beginSession_70 rfl (lv_at hl 2 rfl) ?_
            refine m_get E hb0 fw_X1_11 rfl dX1_beginSession_71 ?_
            refine lv_aload_n E.1 E.2.1 dX1_beginSession_74 rfl (lv_at hl 2 rfl) ?_
            refine m_get E hb0 fw_X1_29 rfl dX1_beginSession_75 ?_
            refine r_aald E hses rfl (mn σ) rfl (by omega) (by decide) dX1_beginSession_78 ?_
            obtain ⟨wd, td, hod, hrd⟩ := hP.2.2.2.2.2.1 (mn σ) (by omega)
            refine lv_astore (lv' := [(4, .ref (b + 5 + 2 * mn σ)), (3, .null), (2, .int (iI ((s0 σ : Int) + (s1 σ : Int)))), (0, .ref (b)), (1, .int (iI (x)))]) E.1 E.2.1 dX1_beginSession_79 hl (by decide) rfl (fun ls hl => ?_)
            refine lv_aload E.1 E.2.1 dX1_beginSession_81 (lv_at hl 0 rfl) ?_
            refine lv_aload_n E.1 E.2.1 dX1_beginSession_83 rfl (lv_at hl 3 rfl) ?_
            refine m_get E hb0 fw_X1_33 rfl dX1_beginSession_84 ?_
            refine lv_aload_n E.1 E.2.1 dX1_beginSession_87 rfl (lv_at hl 3 rfl) ?_
            refine m_get E hb0 fw_X1_25 rfl dX1_beginSession_88 ?_
            refine r_const E dX1_beginSession_91 ?_
            refine r_iald E hb4 (0) rfl (by decide) (by decide) dX1_beginSession_92 ?_
            rw [if_pos rfl]
            refine lv_aload_n E.1 E.2.1 dX1_beginSession_93 rfl (lv_at hl 3 rfl) ?_
            refine m_get E hb0 fw_X1_25 rfl dX1_beginSession_94 ?_
            refine r_const E dX1_beginSession_97 ?_
            refine r_iald E hb4 (1) rfl (by decide) (by decide) dX1_beginSession_98 ?_
            rw [if_neg (by decide)]
            refine kVWV (As := [.int (iI ((nx σ : Int))), .int (iI ((s0 σ : Int))), .int (iI ((s1 σ : Int)))]) E cw_X1_55 (c_X3_startAt G l (b + 5 + 2 * mn σ) ((nx σ : Int)) ((s0 σ : Int)) ((s1 σ : Int)) wd td (by omega)) hod ⟨_, _, rfl⟩ ⟨hod, hrd⟩ hL hl.1 rfl rfl (Nat.le_of_ble_eq_true rfl) ⟨Nat.le_of_ble_eq_true rfl, Nat.le_of_ble_eq_true rfl⟩ ⟨Nat.le_of_ble_eq_true rfl, Nat.le_of_ble_eq_true rfl⟩ dX1_beginSession_99 (fun H1 locs hL hw_ => ?_)
            obtain ⟨⟨ho4, hr4⟩, hq⟩ := hw_
            have hb0 := hb0.kept (hq.2 _ (by omega))
            have hb2 := hb2.kept (hq.2 _ (by omega))
            have hb3 := hb3.kept (hq.2 _ (by omega))
            have hb4 := hb4.kept (hq.2 _ (by omega))
            have hfr := (FrD.rf (b := b) (n := mn σ) (H := s.heap)).ses hq (by omega) (by omega)
            have ho4 : Ob G (b + 5 + 2 * mn σ) 3 [.ref (b + 5 + 2 * mn σ + 1), .int (iI (0)), .int (iI ((nx σ : Int))), .int (iI ((nx σ : Int) + (s0 σ : Int))), .int (iI ((s0 σ : Int))), .int (iI ((s1 σ : Int))), .int (iI (0))] H1 := ho4
            refine lv_iload_n E.1 E.2.1 dX1_beginSession_102 rfl (lv_at hl 4 rfl) ?_
            refine r_const E dX1_beginSession_103 ?_
            refine r_icmp_ne (tgt := 117) E dX1_beginSession_104 (by decide) (by omega) (by omega) (fun c104 => ?_) (fun c104 => ?_)
            · refine lv_aload_n E.1 E.2.1 dX1_beginSession_117 rfl (lv_at hl 3 rfl) ?_
              refine lv_aload E.1 E.2.1 dX1_beginSession_118 (lv_at hl 0 rfl) ?_
              refine m_get E ho4 fw_X1_62 rfl dX1_beginSession_120 ?_
              refine m_put E hb0 fw_X1_33 fp_X1_5 rfl rfl (Nat.le_of_ble_eq_true rfl) hL (by omega) dX1_beginSession_123 (fun H2 locs hL hO_ hF_ => ?_)
              have hb2 := hb2.kept (hF_.2 _ (by omega))
              have hb3 := hb3.kept (hF_.2 _ (by omega))
              have hb4 := hb4.kept (hF_.2 _ (by omega))
              have ho4 := ho4.kept (hF_.2 _ (by omega))
              have hfr := hfr.one hF_ (by omega)
              have hr4 := hr4.kept (hF_.2 _ (by omega))
              have hb0 : Ob G (b) 1 [.ref (b + 1), .ref (b + 2), .ref (b + 3), .ref (b + 4), .int (iI ((mn σ : Int))), .int (iI ((nx σ : Int) + (s0 σ : Int))), .int (iI ((cntB (dm σ) 240 : Int)))] H2 := hO_
              clear hO_
              refine lv_aload_n E.1 E.2.1 dX1_beginSession_126 rfl (lv_at hl 3 rfl) ?_
              refine lv_dup E.1 E.2.1 dX1_beginSession_127 rfl ?_
              refine m_get E hb0 fw_X1_29 rfl dX1_beginSession_128 ?_
              refine r_const E dX1_beginSession_131 ?_
              refine r_add E dX1_beginSession_132 ?_
              refine m_put E hb0 fw_X1_29 fp_X1_4 rfl rfl (Nat.le_of_ble_eq_true rfl) hL (by omega) dX1_beginSession_133 (fun H3 locs hL hO_ hF_ => ?_)
              have hb2 := hb2.kept (hF_.2 _ (by omega))
              have hb3 := hb3.kept (hF_.2 _ (by omega))
              have hb4 := hb4.kept (hF_.2 _ (by omega))
              have ho4 := ho4.kept (hF_.2 _ (by omega))
              have hfr := hfr.one hF_ (by omega)
              have hr4 := hr4.kept (hF_.2 _ (by omega))
              have hb0 : Ob G (b) 1 [.ref (b + 1), .ref (b + 2), .ref (b + 3), .ref (b + 4), .int (iI ((mn σ : Int) + 1)), .int (iI ((nx σ : Int) + (s0 σ : Int))), .int (iI ((cntB (dm σ) 240 : Int)))] H3 := hO_
              clear hO_
              refine lv_aload_n E.1 E.2.1 dX1_beginSession_136 rfl (lv_at hl 3 rfl) ?_
              refine m_get E hb0 fw_X1_29 rfl dX1_beginSession_137 ?_
              refine r_const E dX1_beginSession_140 ?_
              refine r_sub E dX1_beginSession_141 ?_
              refine e_iret (rm := ({ frames := 4, cells := 0, slots := 0, locals := 94 } : Room)) (v := iI (((mn σ : Int) + 1) - 1)) E hL dX1_beginSession_142 ?_
              have hsp : spBegin σ x = ((mn σ : Int), mkS (nx σ + s0 σ) (mn σ + 1) (s0 σ) (s1 σ) (dm σ) (vr σ) (va_up (se σ) (mn σ) (fun w => if w = 1 then nx σ else if w = 2 then s0 σ else if w = 3 then s0 σ else if w = 4 then s1 σ else 0)) (va_up (en σ) (mn σ) (fun k => if x = 1 then foundF σ k else none))) := by
                unfold spBegin
                rw [if_neg (by omega), if_neg (by rw [hop]; decide), if_neg (by omega)]
              refine WD_i hsp (by omega) ?_ (hfr.S (by omega))
              refine hP.re (n := mn σ) hb0 (congrArg iI (by show _ = ((mn σ + 1 : Nat) : Int); omega)) (congrArg iI (by show _ = ((nx σ + s0 σ : Nat) : Int); omega)) rfl hb2 hb3 hb4 (by omega) ?_ hfr (fun j hj hj2 => ⟨by have h9 : j < mn σ + 1 := hj2; omega, up_n hj, up_n hj⟩)
              show SesL G _ fl (va_up (se σ) (mn σ) _ (mn σ)) (va_up (en σ) (mn σ) _ (mn σ)) _
              rw [up_s, up_s]
              refine SesL.mk2 (t := (fun _ => none)) ho4 hr4 ?_ rfl rfl (congrArg iI (by show _ = ((nx σ : Nat) : Int) + ((s0 σ : Nat) : Int); omega)) rfl rfl rfl
              intro k hk
              dsimp only
              rw [if_neg (by omega)]
              exact ⟨rfl, fun a h => by cases h⟩
            · refine lv_aload_nN E.1 E.2.1 dX1_beginSession_107 rfl (lv_at hl 1 rfl) ?_
              refine lv_ifnullN (tgt := 117) E.1 E.2.1 dX1_beginSession_108 (by decide) ?_
              refine lv_aload_n E.1 E.2.1 dX1_beginSession_117 rfl (lv_at hl 3 rfl) ?_
              refine lv_aload E.1 E.2.1 dX1_beginSession_118 (lv_at hl 0 rfl) ?_
              refine m_get E ho4 fw_X1_62 rfl dX1_beginSession_120 ?_
              refine m_put E hb0 fw_X1_33 fp_X1_5 rfl rfl (Nat.le_of_ble_eq_true rfl) hL (by omega) dX1_beginSession_123 (fun H2 locs hL hO_ hF_ => ?_)
              have hb2 := hb2.kept (hF_.2 _ (by omega))
              have hb3 := hb3.kept (hF_.2 _ (by omega))
              have hb4 := hb4.kept (hF_.2 _ (by omega))
              have ho4 := ho4.kept (hF_.2 _ (by omega))
              have hfr := hfr.one hF_ (by omega)
              have hr4 := hr4.kept (hF_.2 _ (by omega))
              have hb0 : Ob G (b) 1 [.ref (b + 1), .ref (b + 2), .ref (b + 3), .ref (b + 4), .int (iI ((mn σ : Int))), .int (iI ((nx σ : Int) + (s0 σ : Int))), .int (iI ((cntB (dm σ) 240 : Int)))] H2 := hO_
              clear hO_
              refine lv_aload_n E.1 E.2.1 dX1_beginSession_126 rfl (lv_at hl 3 rfl) ?_
              refine lv_dup E.1 E.2.1 dX1_beginSession_127 rfl ?_
              refine m_get E hb0 fw_X1_29 rfl dX1_beginSession_128 ?_
              refine r_const E dX1_beginSession_131 ?_
              refine r_add E dX1_beginSession_132 ?_
              refine m_put E hb0 fw_X1_29 fp_X1_4 rfl rfl (Nat.le_of_ble_eq_true rfl) hL (by omega) dX1_beginSession_133 (fun H3 locs hL hO_ hF_ => ?_)
              have hb2 := hb2.kept (hF_.2 _ (by omega))
              have hb3 := hb3.kept (hF_.2 _ (by omega))
              have hb4 := hb4.kept (hF_.2 _ (by omega))
              have ho4 := ho4.kept (hF_.2 _ (by omega))
              have hfr := hfr.one hF_ (by omega)
              have hr4 := hr4.kept (hF_.2 _ (by omega))
              have hb0 : Ob G (b) 1 [.ref (b + 1), .ref (b + 2), .ref (b + 3), .ref (b + 4), .int (iI ((mn σ : Int) + 1)), .int (iI ((nx σ : Int) + (s0 σ : Int))), .int (iI ((cntB (dm σ) 240 : Int)))] H3 := hO_
              clear hO_
              refine lv_aload_n E.1 E.2.1 dX1_beginSession_136 rfl (lv_at hl 3 rfl) ?_
              refine m_get E hb0 fw_X1_29 rfl dX1_beginSession_137 ?_
              refine r_const E dX1_beginSession_140 ?_
              refine r_sub E dX1_beginSession_141 ?_
              refine e_iret (rm := ({ frames := 4, cells := 0, slots := 0, locals := 94 } : Room)) (v := iI (((mn σ : Int) + 1) - 1)) E hL dX1_beginSession_142 ?_
              have hsp : spBegin σ x = ((mn σ : Int), mkS (nx σ + s0 σ) (mn σ + 1) (s0 σ) (s1 σ) (dm σ) (vr σ) (va_up (se σ) (mn σ) (fun w => if w = 1 then nx σ else if w = 2 then s0 σ else if w = 3 then s0 σ else if w = 4 then s1 σ else 0)) (va_up (en σ) (mn σ) (fun k => if x = 1 then foundF σ k else none))) := by
                unfold spBegin
                rw [if_neg (by omega), if_neg (by rw [hop]; decide), if_neg (by omega)]
              refine WD_i hsp (by omega) ?_ (hfr.S (by omega))
              refine hP.re (n := mn σ) hb0 (congrArg iI (by show _ = ((mn σ + 1 : Nat) : Int); omega)) (congrArg iI (by show _ = ((nx σ + s0 σ : Nat) : Int); omega)) rfl hb2 hb3 hb4 (by omega) ?_ hfr (fun j hj hj2 => ⟨by have h9 : j < mn σ + 1 := hj2; omega, up_n hj, up_n hj⟩)
              show SesL G _ fl (va_up (se σ) (mn σ) _ (mn σ)) (va_up (en σ) (mn σ) _ (mn σ)) _
              rw [up_s, up_s]
              refine SesL.mk2 (t := (fun _ => none)) ho4 hr4 ?_ rfl rfl (congrArg iI (by show _ = ((nx σ : Nat) : Int) + ((s0 σ : Nat) : Int); omega)) rfl rfl rfl
              intro k hk
              dsimp only
              rw [if_pos c104]
              simp only [foundF, hv]
              exact ⟨rfl, fun a h => by cases h⟩
          · have hv1 := validD_lt hv
            rw [show oI (some v) = (v : Int) from rfl]
            refine kVQE (As := [.int (iI ((v : Int)))]) E cw_X1_51 (c_sessionAt_s G l b fl σ hI v (by omega)) hP.1 ⟨_, _, rfl⟩ hP hL hl.1 rfl rfl (Nat.le_of_ble_eq_true rfl) ⟨Nat.le_of_ble_eq_true rfl, Nat.le_of_ble_eq_true rfl⟩ ⟨rfl, rfl⟩ ⟨Nat.le_of_ble_eq_true rfl, Nat.le_of_ble_eq_true rfl⟩ dX1_beginSession_66 (fun locs hL => ?_)
            refine lv_astore_n (lv' := [(3, .ref (b + 5 + 2 * v)), (2, .int (iI ((s0 σ : Int) + (s1 σ : Int)))), (0, .ref (b)), (1, .int (iI (x)))]) E.1 E.2.1 dX1_beginSession_69 rfl hl (by decide) rfl (fun ls hl => ?_)
            have hses := hP.2.1
            refine lv_aload_n E.1 E.2.1 dX1_beginSession_70 rfl (lv_at hl 2 rfl) ?_
            refine m_get E hb0 fw_X1_11 rfl dX1_beginSession_71 ?_
            refine lv_aload_n E.1 E.2.1 dX1_beginSession_74 rfl (lv_at hl 2 rfl) ?_
            refine m_get E hb0 fw_X1_29 rfl dX1_beginSession_75 ?_
            refine r_aald E hses rfl (mn σ) rfl (by omega) (by decide) dX1_beginSession_78 ?_
            obtain ⟨wd, td, hod, hrd⟩ := hP.2.2.2.2.2.1 (mn σ) (by omega)
            refine lv_astore (lv' := [(4, .ref (b + 5 + 2 * mn σ)), (3, .ref (b + 5 + 2 * v)), (2, .int (iI ((s0 σ : Int) + (s1 σ : Int)))), (0, .ref (b)), (1, .int (iI (x)))]) E.1 E.2.1 dX1_beginSession_79 hl (by decide) rfl (fun ls hl => ?_)
            refine lv_aload E.1 E.2.1 dX1_beginSession_81 (lv_at hl 0 rfl) ?_
            refine lv_aload_n E.1 E.2.1 dX1_beginSession_83 rfl (lv_at hl 3 rfl) ?_
            refine m_get E hb0 fw_X1_33 rfl dX1_beginSession_84 ?_
            refine lv_aload_n E.1 E.2.1 dX1_beginSession_87 rfl (lv_at hl 3 rfl) ?_
            refine m_get E hb0 fw_X1_25 rfl dX1_beginSession_88 ?_
            refine r_const E dX1_beginSession_91 ?_
            refine r_iald E hb4 (0) rfl (by decide) (by decide) dX1_beginSession_92 ?_
            rw [if_pos rfl]
            refine lv_aload_n E.1 E.2.1 dX1_beginSession_93 rfl (lv_at hl 3 rfl) ?_
            refine m_get E hb0 fw_X1_25 rfl dX1_beginSession_94 ?_
            refine r_const E dX1_beginSession_97 ?_
            refine r_iald E hb4 (1) rfl (by decide) (by decide) dX1_beginSession_98 ?_
            rw [if_neg (by decide)]
            refine kVWV (As := [.int (iI ((nx σ : Int))), .int (iI ((s0 σ : Int))), .int (iI ((s1 σ : Int)))]) E cw_X1_55 (c_X3_startAt G l (b + 5 + 2 * mn σ) ((nx σ : Int)) ((s0 σ : Int)) ((s1 σ : Int)) wd td (by omega)) hod ⟨_, _, rfl⟩ ⟨hod, hrd⟩ hL hl.1 rfl rfl (Nat.le_of_ble_eq_true rfl) ⟨Nat.le_of_ble_eq_true rfl, Nat.le_of_ble_eq_true rfl⟩ ⟨Nat.le_of_ble_eq_true rfl, Nat.le_of_ble_eq_true rfl⟩ dX1_beginSession_99 (fun H1 locs hL hw_ => ?_)
            obtain ⟨⟨ho4, hr4⟩, hq⟩ := hw_
            have hb0 := hb0.kept (hq.2 _ (by omega))
            have hb2 := hb2.kept (hq.2 _ (by omega))
            have hb3 := hb3.kept (hq.2 _ (by omega))
            have hb4 := hb4.kept (hq.2 _ (by omega))
            have hfr := (FrD.rf (b := b) (n := mn σ) (H := s.heap)).ses hq (by omega) (by omega)
            have ho4 : Ob G (b + 5 + 2 * mn σ) 3 [.ref (b + 5 + 2 * mn σ + 1), .int (iI (0)), .int (iI ((nx σ : Int))), .int (iI ((nx σ : Int) + (s0 σ : Int))), .int (iI ((s0 σ : Int))), .int (iI ((s1 σ : Int))), .int (iI (0))] H1 := ho4
            refine lv_iload_n E.1 E.2.1 dX1_beginSession_102 rfl (lv_at hl 4 rfl) ?_
            refine r_const E dX1_beginSession_103 ?_
            refine r_icmp_ne (tgt := 117) E dX1_beginSession_104 (by decide) (by omega) (by omega) (fun c104 => ?_) (fun c104 => ?_)
            · refine lv_aload_n E.1 E.2.1 dX1_beginSession_117 rfl (lv_at hl 3 rfl) ?_
              refine lv_aload E.1 E.2.1 dX1_beginSession_118 (lv_at hl 0 rfl) ?_
              refine m_get E ho4 fw_X1_62 rfl dX1_beginSession_120 ?_
              refine m_put E hb0 fw_X1_33 fp_X1_5 rfl rfl (Nat.le_of_ble_eq_true rfl) hL (by omega) dX1_beginSession_123 (fun H2 locs hL hO_ hF_ => ?_)
              have hb2 := hb2.kept (hF_.2 _ (by omega))
              have hb3 := hb3.kept (hF_.2 _ (by omega))
              have hb4 := hb4.kept (hF_.2 _ (by omega))
              have ho4 := ho4.kept (hF_.2 _ (by omega))
              have hfr := hfr.one hF_ (by omega)
              have hr4 := hr4.kept (hF_.2 _ (by omega))
              have hb0 : Ob G (b) 1 [.ref (b + 1), .ref (b + 2), .ref (b + 3), .ref (b + 4), .int (iI ((mn σ : Int))), .int (iI ((nx σ : Int) + (s0 σ : Int))), .int (iI ((cntB (dm σ) 240 : Int)))] H2 := hO_
              clear hO_
              refine lv_aload_n E.1 E.2.1 dX1_beginSession_126 rfl (lv_at hl 3 rfl) ?_
              refine lv_dup E.1 E.2.1 dX1_beginSession_127 rfl ?_
              refine m_get E hb0 fw_X1_29 rfl dX1_beginSession_128 ?_
              refine r_const E dX1_beginSession_131 ?_
              refine r_add E dX1_beginSession_132 ?_
              refine m_put E hb0 fw_X1_29 fp_X1_4 rfl rfl (Nat.le_of_ble_eq_true rfl) hL (by omega) dX1_beginSession_133 (fun H3 locs hL hO_ hF_ => ?_)
              have hb2 := hb2.kept (hF_.2 _ (by omega))
              have hb3 := hb3.kept (hF_.2 _ (by omega))
              have hb4 := hb4.kept (hF_.2 _ (by omega))
              have ho4 := ho4.kept (hF_.2 _ (by omega))
              have hfr := hfr.one hF_ (by omega)
              have hr4 := hr4.kept (hF_.2 _ (by omega))
              have hb0 : Ob G (b) 1 [.ref (b + 1), .ref (b + 2), .ref (b + 3), .ref (b + 4), .int (iI ((mn σ : Int) + 1)), .int (iI ((nx σ : Int) + (s0 σ : Int))), .int (iI ((cntB (dm σ) 240 : Int)))] H3 := hO_
              clear hO_
              refine lv_aload_n E.1 E.2.1 dX1_beginSession_136 rfl (lv_at hl 3 rfl) ?_
              refine m_get E hb0 fw_X1_29 rfl dX1_beginSession_137 ?_
              refine r_const E dX1_beginSession_140 ?_
              refine r_sub E dX1_beginSession_141 ?_
              refine e_iret (rm := ({ frames := 4, cells := 0, slots := 0, locals := 94 } : Room)) (v := iI (((mn σ : Int) + 1) - 1)) E hL dX1_beginSession_142 ?_
              have hsp : spBegin σ x = ((mn σ : Int), mkS (nx σ + s0 σ) (mn σ + 1) (s0 σ) (s1 σ) (dm σ) (vr σ) (va_up (se σ) (mn σ) (fun w => if w = 1 then nx σ else if w = 2 then s0 σ else if w = 3 then s0 σ else if w = 4 then s1 σ else 0)) (va_up (en σ) (mn σ) (fun k => if x = 1 then foundF σ k else none))) := by
                unfold spBegin
                rw [if_neg (by omega), if_neg (by rw [hop]; decide), if_neg (by omega)]
              refine WD_i hsp (by omega) ?_ (hfr.S (by omega))
              refine hP.re (n := mn σ) hb0 (congrArg iI (by show _ = ((mn σ + 1 : Nat) : Int); omega)) (congrArg iI (by show _ = ((nx σ + s0 σ : Nat) : Int); omega)) rfl hb2 hb3 hb4 (by omega) ?_ hfr (fun j hj hj2 => ⟨by have h9 : j < mn σ + 1 := hj2; omega, up_n hj, up_n hj⟩)
              show SesL G _ fl (va_up (se σ) (mn σ) _ (mn σ)) (va_up (en σ) (mn σ) _ (mn σ)) _
              rw [up_s, up_s]
              refine SesL.mk2 (t := (fun _ => none)) ho4 hr4 ?_ rfl rfl (congrArg iI (by show _ = ((nx σ : Nat) : Int) + ((s0 σ : Nat) : Int); omega)) rfl rfl rfl
              intro k hk
              dsimp only
              rw [if_neg (by omega)]
              exact ⟨rfl, fun a h => by cases h⟩
            · refine lv_aload_n E.1 E.2.1 dX1_beginSession_107 rfl (lv_at hl 1 rfl) ?_
              refine lv_ifnull E.1 E.2.1 dX1_beginSession_108 ?_
              obtain ⟨t_, ho_, hr_, ht_⟩ := hP.live hv1 (by omega)
              have ho_ := ho_.kept (hfr.2 _ (by omega) (by omega) (by omega) (by omega) (by omega) (by omega))
              have hr_ := hr_.kept (hfr.2 _ (by omega) (by omega) (by omega) (by omega) (by omega) (by omega))
              have hT : TabF G fb t_ s.heap := ht_.F hFl
              have hT : TabF G fb t_ H1 := hT.kept (fun q h1 h2 => (hfr.S (by omega)).2 q (by omega))
              refine lv_aload E.1 E.2.1 dX1_beginSession_111 (lv_at hl 0 rfl) ?_
              refine lv_aload_n E.1 E.2.1 dX1_beginSession_113 rfl (lv_at hl 1 rfl) ?_
              refine kVWV (As := [.ref (b + 5 + 2 * v)]) E cw_X1_59 (c_X3_copyTable G l (b + 5 + 2 * mn σ) (b + 5 + 2 * v) fb (fun k => if k = 0 then iI 0 else if k = 1 then iI (nx σ) else if k = 2 then iI ((nx σ : Int) + (s0 σ : Int)) else if k = 3 then iI (s0 σ) else if k = 4 then iI (s1 σ) else iI 0) (encR (se σ v)) (fun _ => none) t_ (by omega) (by omega) (by omega)) ho4 ⟨_, _, rfl⟩ ⟨⟨ho4, hr4⟩, ⟨ho_, hr_⟩, hT⟩ hL hl.1 rfl rfl (Nat.le_of_ble_eq_true rfl) ⟨Nat.le_of_ble_eq_true rfl, Nat.le_of_ble_eq_true rfl⟩ ⟨Nat.le_of_ble_eq_true rfl, Nat.le_of_ble_eq_true rfl⟩ dX1_beginSession_114 (fun H2 locs hL hw_ => ?_)
              obtain ⟨⟨ho4, hr4⟩, hq⟩ := hw_
              have hb0 := hb0.kept (hq.2 _ (by omega))
              have hb2 := hb2.kept (hq.2 _ (by omega))
              have hb3 := hb3.kept (hq.2 _ (by omega))
              have hb4 := hb4.kept (hq.2 _ (by omega))
              have hfr := hfr.ses hq (by omega) (by omega)
              have ho4 : Ob G (b + 5 + 2 * mn σ) 3 [.ref (b + 5 + 2 * mn σ + 1), .int (iI (0)), .int (iI ((nx σ : Int))), .int (iI ((nx σ : Int) + (s0 σ : Int))), .int (iI ((s0 σ : Int))), .int (iI ((s1 σ : Int))), .int (iI (0))] H2 := ho4
              refine lv_aload_n E.1 E.2.1 dX1_beginSession_117 rfl (lv_at hl 3 rfl) ?_
              refine lv_aload E.1 E.2.1 dX1_beginSession_118 (lv_at hl 0 rfl) ?_
              refine m_get E ho4 fw_X1_62 rfl dX1_beginSession_120 ?_
              refine m_put E hb0 fw_X1_33 fp_X1_5 rfl rfl (Nat.le_of_ble_eq_true rfl) hL (by omega) dX1_beginSession_123 (fun H3 locs hL hO_ hF_ => ?_)
              have hb2 := hb2.kept (hF_.2 _ (by omega))
              have hb3 := hb3.kept (hF_.2 _ (by omega))
              have hb4 := hb4.kept (hF_.2 _ (by omega))
              have ho4 := ho4.kept (hF_.2 _ (by omega))
              have hfr := hfr.one hF_ (by omega)
              have hr4 := hr4.kept (hF_.2 _ (by omega))
              have hb0 : Ob G (b) 1 [.ref (b + 1), .ref (b + 2), .ref (b + 3), .ref (b + 4), .int (iI ((mn σ : Int))), .int (iI ((nx σ : Int) + (s0 σ : Int))), .int (iI ((cntB (dm σ) 240 : Int)))] H3 := hO_
              clear hO_
              refine lv_aload_n E.1 E.2.1 dX1_beginSession_126 rfl (lv_at hl 3 rfl) ?_
              refine lv_dup E.1 E.2.1 dX1_beginSession_127 rfl ?_
              refine m_get E hb0 fw_X1_29 rfl dX1_beginSession_128 ?_
              refine r_const E dX1_beginSession_131 ?_
              refine r_add E dX1_beginSession_132 ?_
              refine m_put E hb0 fw_X1_29 fp_X1_4 rfl rfl (Nat.le_of_ble_eq_true rfl) hL (by omega) dX1_beginSession_133 (fun H4 locs hL hO_ hF_ => ?_)
              have hb2 := hb2.kept (hF_.2 _ (by omega))
              have hb3 := hb3.kept (hF_.2 _ (by omega))
              have hb4 := hb4.kept (hF_.2 _ (by omega))
              have ho4 := ho4.kept (hF_.2 _ (by omega))
              have hfr := hfr.one hF_ (by omega)
              have hr4 := hr4.kept (hF_.2 _ (by omega))
              have hb0 : Ob G (b) 1 [.ref (b + 1), .ref (b + 2), .ref (b + 3), .ref (b + 4), .int (iI ((mn σ : Int) + 1)), .int (iI ((nx σ : Int) + (s0 σ : Int))), .int (iI ((cntB (dm σ) 240 : Int)))] H4 := hO_
              clear hO_
              refine lv_aload_n E.1 E.2.1 dX1_beginSession_136 rfl (lv_at hl 3 rfl) ?_
              refine m_get E hb0 fw_X1_29 rfl dX1_beginSession_137 ?_
              refine r_const E dX1_beginSession_140 ?_
              refine r_sub E dX1_beginSession_141 ?_
              refine e_iret (rm := ({ frames := 4, cells := 0, slots := 0, locals := 94 } : Room)) (v := iI (((mn σ : Int) + 1) - 1)) E hL dX1_beginSession_142 ?_
              have hsp : spBegin σ x = ((mn σ : Int), mkS (nx σ + s0 σ) (mn σ + 1) (s0 σ) (s1 σ) (dm σ) (vr σ) (va_up (se σ) (mn σ) (fun w => if w = 1 then nx σ else if w = 2 then s0 σ else if w = 3 then s0 σ else if w = 4 then s1 σ else 0)) (va_up (en σ) (mn σ) (fun k => if x = 1 then foundF σ k else none))) := by
                unfold spBegin
                rw [if_neg (by omega), if_neg (by rw [hop]; decide), if_neg (by omega)]
              refine WD_i hsp (by omega) ?_ (hfr.S (by omega))
              refine hP.re (n := mn σ) hb0 (congrArg iI (by show _ = ((mn σ + 1 : Nat) : Int); omega)) (congrArg iI (by show _ = ((nx σ + s0 σ : Nat) : Int); omega)) rfl hb2 hb3 hb4 (by omega) ?_ hfr (fun j hj hj2 => ⟨by have h9 : j < mn σ + 1 := hj2; omega, up_n hj, up_n hj⟩)
              show SesL G _ fl (va_up (se σ) (mn σ) _ (mn σ)) (va_up (en σ) (mn σ) _ (mn σ)) _
              rw [up_s, up_s]
              refine SesL.mk2 (t := t_) ho4 hr4 ?_ rfl rfl (congrArg iI (by show _ = ((nx σ : Nat) : Int) + ((s0 σ : Nat) : Int); omega)) rfl rfl rfl
              intro k hk
              dsimp only
              rw [if_pos c104]
              simp only [foundF, hv]
              exact ht_ k hk
        · refine r_bipush E dX1_beginSession_57 (by decide) ?_
          refine e_iret (rm := ({ frames := 4, cells := 0, slots := 0, locals := 94 } : Room)) (v := iI ((-4))) E hL dX1_beginSession_59 ?_
          exact WD_i (w := -4) (τ := σ) (by unfold spBegin; rw [if_neg (by omega), if_neg (by rw [hop]; decide), if_pos (by omega)]) rfl hP FrS.rf
    · have hn := (opn_some hop).1
      have hn0 := (opn_some hop).2
      have hrow := hI.row (n := n) (by omega)
      refine lv_ifnull E.1 E.2.1 dX1_beginSession_16 ?_
      refine r_bipush E dX1_beginSession_19 (by decide) ?_
      refine e_iret (rm := ({ frames := 4, cells := 0, slots := 0, locals := 94 } : Room)) (v := iI ((-5))) E hL dX1_beginSession_21 ?_
      exact WD_i (w := -5) (τ := σ) (by unfold spBegin; rw [if_neg (by omega), if_pos (by rw [hop]; rfl)]) rfl hP FrS.rf
  · refine lv_iload_n E.1 E.2.1 dX1_beginSession_4 rfl (lv_at hl 1 rfl) ?_
    refine r_const E dX1_beginSession_5 ?_
    refine r_icmp_eq (tgt := 12) E dX1_beginSession_6 (by decide) (by omega) (by omega) (fun c6 => ?_) (fun c6 => ?_)
    · refine lv_aload_n E.1 E.2.1 dX1_beginSession_12 rfl (lv_at hl 0 rfl) ?_
      refine kVQE (As := []) E cw_X1_43 (c_X1_openSession G l b fl σ hI) hP.1 ⟨_, _, rfl⟩ hP hL hl.1 rfl rfl (Nat.le_of_ble_eq_true rfl) ⟨Nat.le_of_ble_eq_true rfl, Nat.le_of_ble_eq_true rfl⟩ ⟨rfl, rfl⟩ ⟨Nat.le_of_ble_eq_true rfl, Nat.le_of_ble_eq_true rfl⟩ dX1_beginSession_13 (fun locs hL => ?_)
      rcases hop : opn σ with _ | n
      · refine lv_ifnullN (tgt := 22) E.1 E.2.1 dX1_beginSession_16 (by decide) ?_
        refine lv_aload_n E.1 E.2.1 dX1_beginSession_22 rfl (lv_at hl 0 rfl) ?_
        refine m_get E hb0 fw_X1_25 rfl dX1_beginSession_23 ?_
        refine r_const E dX1_beginSession_26 ?_
        refine r_iald E hb4 (0) rfl (by decide) (by decide) dX1_beginSession_27 ?_
        rw [if_pos rfl]
        refine lv_aload_n E.1 E.2.1 dX1_beginSession_28 rfl (lv_at hl 0 rfl) ?_
        refine m_get E hb0 fw_X1_25 rfl dX1_beginSession_29 ?_
        refine r_const E dX1_beginSession_32 ?_
        refine r_iald E hb4 (1) rfl (by decide) (by decide) dX1_beginSession_33 ?_
        rw [if_neg (by decide)]
        refine r_add E dX1_beginSession_34 ?_
        refine lv_istore_n (lv' := [(2, .int (iI ((s0 σ : Int) + (s1 σ : Int)))), (0, .ref (b)), (1, .int (iI (x)))]) E.1 E.2.1 dX1_beginSession_35 rfl hl (by decide) rfl (fun ls hl => ?_)
        refine lv_aload_n E.1 E.2.1 dX1_beginSession_36 rfl (lv_at hl 1 rfl) ?_
        refine m_get E hb0 fw_X1_29 rfl dX1_beginSession_37 ?_
        refine r_bipush E dX1_beginSession_40 (by decide) ?_
        refine r_icmp_ge (tgt := 57) E dX1_beginSession_42 (by decide) (by omega) (by omega) (fun c42 => ?_) (fun c42 => ?_)
        · refine r_bipush E dX1_beginSession_57 (by decide) ?_
          refine e_iret (rm := ({ frames := 4, cells := 0, slots := 0, locals := 94 } : Room)) (v := iI ((-4))) E hL dX1_beginSession_59 ?_
          exact WD_i (w := -4) (τ := σ) (by unfold spBegin; rw [if_neg (by omega), if_neg (by rw [hop]; decide), if_pos (by omega)]) rfl hP FrS.rf
        · refine lv_aload_n E.1 E.2.1 dX1_beginSession_45 rfl (lv_at hl 1 rfl) ?_
          refine m_get E hb0 fw_X1_33 rfl dX1_beginSession_46 ?_
          refine lv_iload_n E.1 E.2.1 dX1_beginSession_49 rfl (lv_at hl 0 rfl) ?_
          refine r_add E dX1_beginSession_50 ?_
          refine r_sipush E dX1_beginSession_51 (by decide) ?_
          refine r_icmp_le (tgt := 60) E dX1_beginSession_54 (by decide) (by omega) (by omega) (fun c54 => ?_) (fun c54 => ?_)
          · refine lv_aload_n E.1 E.2.1 dX1_beginSession_60 rfl (lv_at hl 1 rfl) ?_
            refine lv_aload_n E.1 E.2.1 dX1_beginSession_61 rfl (lv_at hl 1 rfl) ?_
            refine r_const E dX1_beginSession_62 ?_
            refine kVRE (As := [.int (iI ((-1)))]) E cw_X1_47 (c_X1_validNumberIf G l b fl σ hI ((-1)) (by unfold okI; omega)) hP.1 ⟨_, _, rfl⟩ hP hL hl.1 rfl rfl (Nat.le_of_ble_eq_true rfl) ⟨Nat.le_of_ble_eq_true rfl, Nat.le_of_ble_eq_true rfl⟩ ⟨rfl, rfl⟩ ⟨Nat.le_of_ble_eq_true rfl, Nat.le_of_ble_eq_true rfl⟩ dX1_beginSession_63 (fun locs hL => ?_)
            rw [dmH_m1 (σ := σ) (h := -1) (by decide)]
            rcases hv : validD σ (dm σ) with _ | v
            · rw [show oI none = -6 from rfl]
              refine kVQE (As := [.int (iI ((-6)))]) E cw_X1_51 (c_sessionAt_n G l b fl σ hI ((-6)) (by unfold okI; omega) (by omega)) hP.1 ⟨_, _, rfl⟩ hP hL hl.1 rfl rfl (Nat.le_of_ble_eq_true rfl) ⟨Nat.le_of_ble_eq_true rfl, Nat.le_of_ble_eq_true rfl⟩ ⟨rfl, rfl⟩ ⟨Nat.le_of_ble_eq_true rfl, Nat.le_of_ble_eq_true rfl⟩ dX1_beginSession_66 (fun locs hL => ?_)
              refine lv_astore_nN (lv' := [(3, .null), (2, .int (iI ((s0 σ : Int) + (s1 σ : Int)))), (0, .ref (b)), (1, .int (iI (x)))]) E.1 E.2.1 dX1_beginSession_69 rfl hl (by decide) rfl (fun ls hl => ?_)
              have hses := hP.2.1
              refine lv_aload_n E.1 E.2.1 dX1_beginSession_70 rfl (lv_at hl 2 rfl) ?_
              refine m_get E hb0 fw_X1_11 rfl dX1_beginSession_71 ?_
              refine lv_aload_n E.1 E.2.1 dX1_beginSession_74 rfl (lv_at hl 2 rfl) ?_
              refine m_get E hb0 fw_X1_29 rfl dX1_beginSession_75 ?_
              refine r_aald E hses rfl (mn σ) rfl (by omega) (by decide) dX1_beginSession_78 ?_
              obtain ⟨wd, td, hod, hrd⟩ := hP.2.2.2.2.2.1 (mn σ) (by omega)
              refine lv_astore (lv' := [(4, .ref (b + 5 + 2 * mn σ)), (3, .null), (2, .int (iI ((s0 σ : Int) + (s1 σ : Int)))), (0, .ref (b)), (1, .int (iI (x)))]) E.1 E.2.1 dX1_beginSession_79 hl (by decide) rfl (fun ls hl => ?_)
              refine lv_aload E.1 E.2.1 dX1_beginSession_81 (lv_at hl 0 rfl) ?_
              refine lv_aload_n E.1 E.2.1 dX1_beginSession_83 rfl (lv_at hl 3 rfl) ?_
              refine m_get E hb0 fw_X1_33 rfl dX1_beginSession_84 ?_
              refine lv_aload_n E.1 E.2.1 dX1_beginSession_87 rfl (lv_at hl 3 rfl) ?_
              refine m_get E hb0 fw_X1_25 rfl dX1_beginSession_88 ?_
              refine r_const E dX1_beginSession_91 ?_
              refine r_iald E hb4 (0) rfl (by decide) (by decide) dX1_beginSession_92 ?_
              rw [if_pos rfl]
              refine lv_aload_n E.1 E.2.1 dX1_beginSession_93 rfl (lv_at hl 3 rfl) ?_
              refine m_get E hb0 fw_X1_25 rfl dX1_beginSession_94 ?_
              refine r_const E dX1_beginSession_97 ?_
              refine r_iald E hb4 (1) rfl (by decide) (by decide) dX1_beginSession_98 ?_
              rw [if_neg (by decide)]
              refine kVWV (As := [.int (iI ((nx σ : Int))), .int (iI ((s0 σ : Int))), .int (iI ((s1 σ : Int)))]) E cw_X1_55 (c_X3_startAt G l (b + 5 + 2 * mn σ) ((nx σ : Int)) ((s0 σ : Int)) ((s1 σ : Int)) wd td (by omega)) hod ⟨_, _, rfl⟩ ⟨hod, hrd⟩ hL hl.1 rfl rfl (Nat.le_of_ble_eq_true rfl) ⟨Nat.le_of_ble_eq_true rfl, Nat.le_of_ble_eq_true rfl⟩ ⟨Nat.le_of_ble_eq_true rfl, Nat.le_of_ble_eq_true rfl⟩ dX1_beginSession_99 (fun H1 locs hL hw_ => ?_)
              obtain ⟨⟨ho4, hr4⟩, hq⟩ := hw_
              have hb0 := hb0.kept (hq.2 _ (by omega))
              have hb2 := hb2.kept (hq.2 _ (by omega))
              have hb3 := hb3.kept (hq.2 _ (by omega))
              have hb4 := hb4.kept (hq.2 _ (by omega))
              have hfr := (FrD.rf (b := b) (n := mn σ) (H := s.heap)).ses hq (by omega) (by omega)
              have ho4 : Ob G (b + 5 + 2 * mn σ) 3 [.ref (b + 5 + 2 * mn σ + 1), .int (iI (0)), .int (iI ((nx σ : Int))), .int (iI ((nx σ : Int) + (s0 σ : Int))), .int (iI ((s0 σ : Int))), .int (iI ((s1 σ : Int))), .int (iI (0))] H1 := ho4
              refine lv_iload_n E.1 E.2.1 dX1_beginSession_102 rfl (lv_at hl 4 rfl) ?_
              refine r_const E dX1_beginSession_103 ?_
              refine r_icmp_ne (tgt := 117) E dX1_beginSession_104 (by decide) (by omega) (by omega) (fun c104 => ?_) (fun c104 => ?_)
              · refine lv_aload_n E.1 E.2.1 dX1_beginSession_117 rfl (lv_at hl 3 rfl) ?_
                refine lv_aload E.1 E.2.1 dX1_beginSession_118 (lv_at hl 0 rfl) ?_
                refine m_get E ho4 fw_X1_62 rfl dX1_beginSession_120 ?_
                refine m_put E hb0 fw_X1_33 fp_X1_5 rfl rfl (Nat.le_of_ble_eq_true rfl) hL (by omega) dX1_beginSession_123 (fun H2 locs hL hO_ hF_ => ?_)
                have hb2 := hb2.kept (hF_.2 _ (by omega))
                have hb3 := hb3.kept (hF_.2 _ (by omega))
                have hb4 := hb4.kept (hF_.2 _ (by omega))
                have ho4 := ho4.kept (hF_.2 _ (by omega))
                have hfr := hfr.one hF_ (by omega)
                have hr4 := hr4.kept (hF_.2 _ (by omega))
                have hb0 : Ob G (b) 1 [.ref (b + 1), .ref (b + 2), .ref (b + 3), .ref (b + 4), .int (iI ((mn σ : Int))), .int (iI ((nx σ : Int) + (s0 σ : Int))), .int (iI ((cntB (dm σ) 240 : Int)))] H2 := hO_
                clear hO_
                refine lv_aload_n E.1 E.2.1 dX1_beginSession_126 rfl (lv_at hl 3 rfl) ?_
                refine lv_dup E.1 E.2.1 dX1_beginSession_127 rfl ?_
                refine m_get E hb0 fw_X1_29 rfl dX1_beginSession_128 ?_
                refine r_const E dX1_beginSession_131 ?_
                refine r_add E dX1_beginSession_132 ?_
                refine m_put E hb0 fw_X1_29 fp_X1_4 rfl rfl (Nat.le_of_ble_eq_true rfl) hL (by omega) dX1_beginSession_133 (fun H3 locs hL hO_ hF_ => ?_)
                have hb2 := hb2.kept (hF_.2 _ (by omega))
                have hb3 := hb3.kept (hF_.2 _ (by omega))
                have hb4 := hb4.kept (hF_.2 _ (by omega))
                have ho4 := ho4.kept (hF_.2 _ (by omega))
                have hfr := hfr.one hF_ (by omega)
                have hr4 := hr4.kept (hF_.2 _ (by omega))
                have hb0 : Ob G (b) 1 [.ref (b + 1), .ref (b + 2), .ref (b + 3), .ref (b + 4), .int (iI ((mn σ : Int) + 1)), .int (iI ((nx σ : Int) + (s0 σ : Int))), .int (iI ((cntB (dm σ) 240 : Int)))] H3 := hO_
                clear hO_
                refine lv_aload_n E.1 E.2.1 dX1_beginSession_136 rfl (lv_at hl 3 rfl) ?_
                refine m_get E hb0 fw_X1_29 rfl dX1_beginSession_137 ?_
                refine r_const E dX1_beginSession_140 ?_
                refine r_sub E dX1_beginSession_141 ?_
                refine e_iret (rm := ({ frames := 4, cells := 0, slots := 0, locals := 94 } : Room)) (v := iI (((mn σ : Int) + 1) - 1)) E hL dX1_beginSession_142 ?_
                have hsp : spBegin σ x = ((mn σ : Int), mkS (nx σ + s0 σ) (mn σ + 1) (s0 σ) (s1 σ) (dm σ) (vr σ) (va_up (se σ) (mn σ) (fun w => if w = 1 then nx σ else if w = 2 then s0 σ else if w = 3 then s0 σ else if w = 4 then s1 σ else 0)) (va_up (en σ) (mn σ) (fun k => if x = 1 then foundF σ k else none))) := by
                  unfold spBegin
                  rw [if_neg (by omega), if_neg (by rw [hop]; decide), if_neg (by omega)]
                refine WD_i hsp (by omega) ?_ (hfr.S (by omega))
                refine hP.re (n := mn σ) hb0 (congrArg iI (by show _ = ((mn σ + 1 : Nat) : Int); omega)) (congrArg iI (by show _ = ((nx σ + s0 σ : Nat) : Int); omega)) rfl hb2 hb3 hb4 (by omega) ?_ hfr (fun j hj hj2 => ⟨by have h9 : j < mn σ + 1 := hj2; omega, up_n hj, up_n hj⟩)
                show SesL G _ fl (va_up (se σ) (mn σ) _ (mn σ)) (va_up (en σ) (mn σ) _ (mn σ)) _
                rw [up_s, up_s]
                refine SesL.mk2 (t := (fun _ => none)) ho4 hr4 ?_ rfl rfl (congrArg iI (by show _ = ((nx σ : Nat) : Int) + ((s0 σ : Nat) : Int); omega)) rfl rfl rfl
                intro k hk
                dsimp only
                rw [if_neg (by omega)]
                exact ⟨rfl, fun a h => by cases h⟩
              · refine lv_aload_nN E.1 E.2.1 dX1_beginSession_107 rfl (lv_at hl 1 rfl) ?_
                refine lv_ifnullN (tgt := 117) E.1 E.2.1 dX1_beginSession_108 (by decide) ?_
                refine lv_aload_n E.1 E.2.1 dX1_beginSession_117 rfl (lv_at hl 3 rfl) ?_
                refine lv_aload E.1 E.2.1 dX1_beginSession_118 (lv_at hl 0 rfl) ?_
                refine m_get E ho4 fw_X1_62 rfl dX1_beginSession_120 ?_
                refine m_put E hb0 fw_X1_33 fp_X1_5 rfl rfl (Nat.le_of_ble_eq_true rfl) hL (by omega) dX1_beginSession_123 (fun H2 locs hL hO_ hF_ => ?_)
                have hb2 := hb2.kept (hF_.2 _ (by omega))
                have hb3 := hb3.kept (hF_.2 _ (by omega))
                have hb4 := hb4.kept (hF_.2 _ (by omega))
                have ho4 := ho4.kept (hF_.2 _ (by omega))
                have hfr := hfr.one hF_ (by omega)
                have hr4 := hr4.kept (hF_.2 _ (by omega))
                have hb0 : Ob G (b) 1 [.ref (b + 1), .ref (b + 2), .ref (b + 3), .ref (b + 4), .int (iI ((mn σ : Int))), .int (iI ((nx σ : Int) + (s0 σ : Int))), .int (iI ((cntB (dm σ) 240 : Int)))] H2 := hO_
                clear hO_
                refine lv_aload_n E.1 E.2.1 dX1_beginSession_126 rfl (lv_at hl 3 rfl) ?_
                refine lv_dup E.1 E.2.1 dX1_beginSession_127 rfl ?_
                refine m_get E hb0 fw_X1_29 rfl dX1_beginSession_128 ?_
                refine r_const E dX1_beginSession_131 ?_
                refine r_add E dX1_beginSession_132 ?_
                refine m_put E hb0 fw_X1_29 fp_X1_4 rfl rfl (Nat.le_of_ble_eq_true rfl) hL (by omega) dX1_beginSession_133 (fun H3 locs hL hO_ hF_ => ?_)
                have hb2 := hb2.kept (hF_.2 _ (by omega))
                have hb3 := hb3.kept (hF_.2 _ (by omega))
                have hb4 := hb4.kept (hF_.2 _ (by omega))
                have ho4 := ho4.kept (hF_.2 _ (by omega))
                have hfr := hfr.one hF_ (by omega)
                have hr4 := hr4.kept (hF_.2 _ (by omega))
                have hb0 : Ob G (b) 1 [.ref (b + 1), .ref (b + 2), .ref (b + 3), .ref (b + 4), .int (iI ((mn σ : Int) + 1)), .int (iI ((nx σ : Int) + (s0 σ : Int))), .int (iI ((cntB (dm σ) 240 : Int)))] H3 := hO_
                clear hO_
                refine lv_aload_n E.1 E.2.1 dX1_beginSession_136 rfl (lv_at hl 3 rfl) ?_
                refine m_get E hb0 fw_X1_29 rfl dX1_beginSession_137 ?_
                refine r_const E dX1_beginSession_140 ?_
                refine r_sub E dX1_beginSession_141 ?_
                refine e_iret (rm := ({ frames := 4, cells := 0, slots := 0, locals := 94 } : Room)) (v := iI (((mn σ : Int) + 1) - 1)) E hL dX1_beginSession_142 ?_
                have hsp : spBegin σ x = ((mn σ : Int), mkS (nx σ + s0 σ) (mn σ + 1) (s0 σ) (s1 σ) (dm σ) (vr σ) (va_up (se σ) (mn σ) (fun w => if w = 1 then nx σ else if w = 2 then s0 σ else if w = 3 then s0 σ else if w = 4 then s1 σ else 0)) (va_up (en σ) (mn σ) (fun k => if x = 1 then foundF σ k else none))) := by
                  unfold spBegin
                  rw [if_neg (by omega), if_neg (by rw [hop]; decide), if_neg (by omega)]
                refine WD_i hsp (by omega) ?_ (hfr.S (by omega))
                refine hP.re (n := mn σ) hb0 (congrArg iI (by show _ = ((mn σ + 1 : Nat) : Int); omega)) (congrArg iI (by show _ = ((nx σ + s0 σ : Nat) : Int); omega)) rfl hb2 hb3 hb4 (by omega) ?_ hfr (fun j hj hj2 => ⟨by have h9 : j < mn σ + 1 := hj2; omega, up_n hj, up_n hj⟩)
                show SesL G _ fl (va_up (se σ) (mn σ) _ (mn σ)) (va_up (en σ) (mn σ) _ (mn σ)) _
                rw [up_s, up_s]
                refine SesL.mk2 (t := (fun _ => none)) ho4 hr4 ?_ rfl rfl (congrArg iI (by show _ = ((nx σ : Nat) : Int) + ((s0 σ : Nat) : Int); omega)) rfl rfl rfl
                intro k hk
                dsimp only
                rw [if_pos c104]
                simp only [foundF, hv]
                exact ⟨rfl, fun a h => by cases h⟩
            · have hv1 := validD_lt hv
              rw [show oI (some v) = (v : Int) from rfl]
              refine kVQE (As := [.int (iI ((v : Int)))]) E cw_X1_51 (c_sessionAt_s G l b fl σ hI v (by omega)) hP.1 ⟨_, _, rfl⟩ hP hL hl.1 rfl rfl (Nat.le_of_ble_eq_true rfl) ⟨Nat.le_of_ble_eq_true rfl, Nat.le_of_ble_eq_true rfl⟩ ⟨rfl, rfl⟩ ⟨Nat.le_of_ble_eq_true rfl, Nat.le_of_ble_eq_true rfl⟩ dX1_beginSession_66 (fun locs hL => ?_)
              refine lv_astore_n (lv' := [(3, .ref (b + 5 + 2 * v)), (2, .int (iI ((s0 σ : Int) + (s1 σ : Int)))), (0, .ref (b)), (1, .int (iI (x)))]) E.1 E.2.1 dX1_beginSession_69 rfl hl (by decide) rfl (fun ls hl => ?_)
              have hses := hP.2.1
              refine lv_aload_n E.1 E.2.1 dX1_beginSession_70 rfl (lv_at hl 2 rfl) ?_
              refine m_get E hb0 fw_X1_11 rfl dX1_beginSession_71 ?_
              refine lv_aload_n E.1 E.2.1 dX1_beginSession_74 rfl (lv_at hl 2 rfl) ?_
              refine m_get E hb0 fw_X1_29 rfl dX1_beginSession_75 ?_
              refine r_aald E hses rfl (mn σ) rfl (by omega) (by decide) dX1_beginSession_78 ?_
              obtain ⟨wd, td, hod, hrd⟩ := hP.2.2.2.2.2.1 (mn σ) (by omega)
              refine lv_astore (lv' := [(4, .ref (b + 5 + 2 * mn σ)), (3, .ref (b + 5 + 2 * v)), (2, .int (iI ((s0 σ : Int) + (s1 σ : Int)))), (0, .ref (b)), (1, .int (iI (x)))]) E.1 E.2.1 dX1_beginSession_79 hl (by decide) rfl (fun ls hl => ?_)
              refine lv_aload E.1 E.2.1 dX1_beginSession_81 (lv_at hl 0 rfl) ?_
              refine lv_aload_n E.1 E.2.1 dX1_beginSession_83 rfl (lv_at hl 3 rfl) ?_
              refine m_get E hb0 fw_X1_33 rfl dX1_beginSession_84 ?_
              refine lv_aload_n E.1 E.2.1 dX1_beginSession_87 rfl (lv_at hl 3 rfl) ?_
              refine m_get E hb0 fw_X1_25 rfl dX1_beginSession_88 ?_
              refine r_const E dX1_beginSession_91 ?_
              refine r_iald E hb4 (0) rfl (by decide) (by decide) dX1_beginSession_92 ?_
              rw [if_pos rfl]
              refine lv_aload_n E.1 E.2.1 dX1_beginSession_93 rfl (lv_at hl 3 rfl) ?_
              refine m_get E hb0 fw_X1_25 rfl dX1_beginSession_94 ?_
              refine r_const E dX1_beginSession_97 ?_
              refine r_iald E hb4 (1) rfl (by decide) (by decide) dX1_beginSession_98 ?_
              rw [if_neg (by decide)]
              refine kVWV (As := [.int (iI ((nx σ : Int))), .int (iI ((s0 σ : Int))), .int (iI ((s1 σ : Int)))]) E cw_X1_55 (c_X3_startAt G l (b + 5 + 2 * mn σ) ((nx σ : Int)) ((s0 σ : Int)) ((s1 σ : Int)) wd td (by omega)) hod ⟨_, _, rfl⟩ ⟨hod, hrd⟩ hL hl.1 rfl rfl (Nat.le_of_ble_eq_true rfl) ⟨Nat.le_of_ble_eq_true rfl, Nat.le_of_ble_eq_true rfl⟩ ⟨Nat.le_of_ble_eq_true rfl, Nat.le_of_ble_eq_true rfl⟩ dX1_beginSession_99 (fun H1 locs hL hw_ => ?_)
              obtain ⟨⟨ho4, hr4⟩, hq⟩ := hw_
              have hb0 := hb0.kept (hq.2 _ (by omega))
              have hb2 := hb2.kept (hq.2 _ (by omega))
              have hb3 := hb3.kept (hq.2 _ (by omega))
              have hb4 := hb4.kept (hq.2 _ (by omega))
              have hfr := (FrD.rf (b := b) (n := mn σ) (H := s.heap)).ses hq (by omega) (by omega)
              have ho4 : Ob G (b + 5 + 2 * mn σ) 3 [.ref (b + 5 + 2 * mn σ + 1), .int (iI (0)), .int (iI ((nx σ : Int))), .int (iI ((nx σ : Int) + (s0 σ : Int))), .int (iI ((s0 σ : Int))), .int (iI ((s1 σ : Int))), .int (iI (0))] H1 := ho4
              refine lv_iload_n E.1 E.2.1 dX1_beginSession_102 rfl (lv_at hl 4 rfl) ?_
              refine r_const E dX1_beginSession_103 ?_
              refine r_icmp_ne (tgt := 117) E dX1_beginSession_104 (by decide) (by omega) (by omega) (fun c104 => ?_) (fun c104 => ?_)
              · refine lv_aload_n E.1 E.2.1 dX1_beginSession_117 rfl (lv_at hl 3 rfl) ?_
                refine lv_aload E.1 E.2.1 dX1_beginSession_118 (lv_at hl 0 rfl) ?_
                refine m_get E ho4 fw_X1_62 rfl dX1_beginSession_120 ?_
                refine m_put E hb0 fw_X1_33 fp_X1_5 rfl rfl (Nat.le_of_ble_eq_true rfl) hL (by omega) dX1_beginSession_123 (fun H2 locs hL hO_ hF_ => ?_)
                have hb2 := hb2.kept (hF_.2 _ (by omega))
                have hb3 := hb3.kept (hF_.2 _ (by omega))
                have hb4 := hb4.kept (hF_.2 _ (by omega))
                have ho4 := ho4.kept (hF_.2 _ (by omega))
                have hfr := hfr.one hF_ (by omega)
                have hr4 := hr4.kept (hF_.2 _ (by omega))
                have hb0 : Ob G (b) 1 [.ref (b + 1), .ref (b + 2), .ref (b + 3), .ref (b + 4), .int (iI ((mn σ : Int))), .int (iI ((nx σ : Int) + (s0 σ : Int))), .int (iI ((cntB (dm σ) 240 : Int)))] H2 := hO_
                clear hO_
                refine lv_aload_n E.1 E.2.1 dX1_beginSession_126 rfl (lv_at hl 3 rfl) ?_
                refine lv_dup E.1 E.2.1 dX1_beginSession_127 rfl ?_
                refine m_get E hb0 fw_X1_29 rfl dX1_beginSession_128 ?_
                refine r_const E dX1_beginSession_131 ?_
                refine r_add E dX1_beginSession_132 ?_
                refine m_put E hb0 fw_X1_29 fp_X1_4 rfl rfl (Nat.le_of_ble_eq_true rfl) hL (by omega) dX1_beginSession_133 (fun H3 locs hL hO_ hF_ => ?_)
                have hb2 := hb2.kept (hF_.2 _ (by omega))
                have hb3 := hb3.kept (hF_.2 _ (by omega))
                have hb4 := hb4.kept (hF_.2 _ (by omega))
                have ho4 := ho4.kept (hF_.2 _ (by omega))
                have hfr := hfr.one hF_ (by omega)
                have hr4 := hr4.kept (hF_.2 _ (by omega))
                have hb0 : Ob G (b) 1 [.ref (b + 1), .ref (b + 2), .ref (b + 3), .ref (b + 4), .int (iI ((mn σ : Int) + 1)), .int (iI ((nx σ : Int) + (s0 σ : Int))), .int (iI ((cntB (dm σ) 240 : Int)))] H3 := hO_
                clear hO_
                refine lv_aload_n E.1 E.2.1 dX1_beginSession_136 rfl (lv_at hl 3 rfl) ?_
                refine m_get E hb0 fw_X1_29 rfl dX1_beginSession_137 ?_
                refine r_const E dX1_beginSession_140 ?_
                refine r_sub E dX1_beginSession_141 ?_
                refine e_iret (rm := ({ frames := 4, cells := 0, slots := 0, locals := 94 } : Room)) (v := iI (((mn σ : Int) + 1) - 1)) E hL dX1_beginSession_142 ?_
                have hsp : spBegin σ x = ((mn σ : Int), mkS (nx σ + s0 σ) (mn σ + 1) (s0 σ) (s1 σ) (dm σ) (vr σ) (va_up (se σ) (mn σ) (fun w => if w = 1 then nx σ else if w = 2 then s0 σ else if w = 3 then s0 σ else if w = 4 then s1 σ else 0)) (va_up (en σ) (mn σ) (fun k => if x = 1 then foundF σ k else none))) := by
                  unfold spBegin
                  rw [if_neg (by omega), if_neg (by rw [hop]; decide), if_neg (by omega)]
                refine WD_i hsp (by omega) ?_ (hfr.S (by omega))
                refine hP.re (n := mn σ) hb0 (congrArg iI (by show _ = ((mn σ + 1 : Nat) : Int); omega)) (congrArg iI (by show _ = ((nx σ + s0 σ : Nat) : Int); omega)) rfl hb2 hb3 hb4 (by omega) ?_ hfr (fun j hj hj2 => ⟨by have h9 : j < mn σ + 1 := hj2; omega, up_n hj, up_n hj⟩)
                show SesL G _ fl (va_up (se σ) (mn σ) _ (mn σ)) (va_up (en σ) (mn σ) _ (mn σ)) _
                rw [up_s, up_s]
                refine SesL.mk2 (t := (fun _ => none)) ho4 hr4 ?_ rfl rfl (congrArg iI (by show _ = ((nx σ : Nat) : Int) + ((s0 σ : Nat) : Int); omega)) rfl rfl rfl
                intro k hk
                dsimp only
                rw [if_neg (by omega)]
                exact ⟨rfl, fun a h => by cases h⟩
              · refine lv_aload_n E.1 E.2.1 dX1_beginSession_107 rfl (lv_at hl 1 rfl) ?_
                refine lv_ifnull E.1 E.2.1 dX1_beginSession_108 ?_
                obtain ⟨t_, ho_, hr_, ht_⟩ := hP.live hv1 (by omega)
                have ho_ := ho_.kept (hfr.2 _ (by omega) (by omega) (by omega) (by omega) (by omega) (by omega))
                have hr_ := hr_.kept (hfr.2 _ (by omega) (by omega) (by omega) (by omega) (by omega) (by omega))
                have hT : TabF G fb t_ s.heap := ht_.F hFl
                have hT : TabF G fb t_ H1 := hT.kept (fun q h1 h2 => (hfr.S (by omega)).2 q (by omega))
                refine lv_aload E.1 E.2.1 dX1_beginSession_111 (lv_at hl 0 rfl) ?_
                refine lv_aload_n E.1 E.2.1 dX1_beginSession_113 rfl (lv_at hl 1 rfl) ?_
                refine kVWV (As := [.ref (b + 5 + 2 * v)]) E cw_X1_59 (c_X3_copyTable G l (b + 5 + 2 * mn σ) (b + 5 + 2 * v) fb (fun k => if k = 0 then iI 0 else if k = 1 then iI (nx σ) else if k = 2 then iI ((nx σ : Int) + (s0 σ : Int)) else if k = 3 then iI (s0 σ) else if k = 4 then iI (s1 σ) else iI 0) (encR (se σ v)) (fun _ => none) t_ (by omega) (by omega) (by omega)) ho4 ⟨_, _, rfl⟩ ⟨⟨ho4, hr4⟩, ⟨ho_, hr_⟩, hT⟩ hL hl.1 rfl rfl (Nat.le_of_ble_eq_true rfl) ⟨Nat.le_of_ble_eq_true rfl, Nat.le_of_ble_eq_true rfl⟩ ⟨Nat.le_of_ble_eq_true rfl, Nat.le_of_ble_eq_true rfl⟩ dX1_beginSession_114 (fun H2 locs hL hw_ => ?_)
                obtain ⟨⟨ho4, hr4⟩, hq⟩ := hw_
                have hb0 := hb0.kept (hq.2 _ (by omega))
                have hb2 := hb2.kept (hq.2 _ (by omega))
                have hb3 := hb3.kept (hq.2 _ (by omega))
                have hb4 := hb4.kept (hq.2 _ (by omega))
                have hfr := hfr.ses hq (by omega) (by omega)
                have ho4 : Ob G (b + 5 + 2 * mn σ) 3 [.ref (b + 5 + 2 * mn σ + 1), .int (iI (0)), .int (iI ((nx σ : Int))), .int (iI ((nx σ : Int) + (s0 σ : Int))), .int (iI ((s0 σ : Int))), .int (iI ((s1 σ : Int))), .int (iI (0))] H2 := ho4
                refine lv_aload_n E.1 E.2.1 dX1_beginSession_117 rfl (lv_at hl 3 rfl) ?_
                refine lv_aload E.1 E.2.1 dX1_beginSession_118 (lv_at hl 0 rfl) ?_
                refine m_get E ho4 fw_X1_62 rfl dX1_beginSession_120 ?_
                refine m_put E hb0 fw_X1_33 fp_X1_5 rfl rfl (Nat.le_of_ble_eq_true rfl) hL (by omega) dX1_beginSession_123 (fun H3 locs hL hO_ hF_ => ?_)
                have hb2 := hb2.kept (hF_.2 _ (by omega))
                have hb3 := hb3.kept (hF_.2 _ (by omega))
                have hb4 := hb4.kept (hF_.2 _ (by omega))
                have ho4 := ho4.kept (hF_.2 _ (by omega))
                have hfr := hfr.one hF_ (by omega)
                have hr4 := hr4.kept (hF_.2 _ (by omega))
                have hb0 : Ob G (b) 1 [.ref (b + 1), .ref (b + 2), .ref (b + 3), .ref (b + 4), .int (iI ((mn σ : Int))), .int (iI ((nx σ : Int) + (s0 σ : Int))), .int (iI ((cntB (dm σ) 240 : Int)))] H3 := hO_
                clear hO_
                refine lv_aload_n E.1 E.2.1 dX1_beginSession_126 rfl (lv_at hl 3 rfl) ?_
                refine lv_dup E.1 E.2.1 dX1_beginSession_127 rfl ?_
                refine m_get E hb0 fw_X1_29 rfl dX1_beginSession_128 ?_
                refine r_const E dX1_beginSession_131 ?_
                refine r_add E dX1_beginSession_132 ?_
                refine m_put E hb0 fw_X1_29 fp_X1_4 rfl rfl (Nat.le_of_ble_eq_true rfl) hL (by omega) dX1_beginSession_133 (fun H4 locs hL hO_ hF_ => ?_)
                have hb2 := hb2.kept (hF_.2 _ (by omega))
                have hb3 := hb3.kept (hF_.2 _ (by omega))
                have hb4 := hb4.kept (hF_.2 _ (by omega))
                have ho4 := ho4.kept (hF_.2 _ (by omega))
                have hfr := hfr.one hF_ (by omega)
                have hr4 := hr4.kept (hF_.2 _ (by omega))
                have hb0 : Ob G (b) 1 [.ref (b + 1), .ref (b + 2), .ref (b + 3), .ref (b + 4), .int (iI ((mn σ : Int) + 1)), .int (iI ((nx σ : Int) + (s0 σ : Int))), .int (iI ((cntB (dm σ) 240 : Int)))] H4 := hO_
                clear hO_
                refine lv_aload_n E.1 E.2.1 dX1_beginSession_136 rfl (lv_at hl 3 rfl) ?_
                refine m_get E hb0 fw_X1_29 rfl dX1_beginSession_137 ?_
                refine r_const E dX1_beginSession_140 ?_
                refine r_sub E dX1_beginSession_141 ?_
                refine e_iret (rm := ({ frames := 4, cells := 0, slots := 0, locals := 94 } : Room)) (v := iI (((mn σ : Int) + 1) - 1)) E hL dX1_beginSession_142 ?_
                have hsp : spBegin σ x = ((mn σ : Int), mkS (nx σ + s0 σ) (mn σ + 1) (s0 σ) (s1 σ) (dm σ) (vr σ) (va_up (se σ) (mn σ) (fun w => if w = 1 then nx σ else if w = 2 then s0 σ else if w = 3 then s0 σ else if w = 4 then s1 σ else 0)) (va_up (en σ) (mn σ) (fun k => if x = 1 then foundF σ k else none))) := by
                  unfold spBegin
                  rw [if_neg (by omega), if_neg (by rw [hop]; decide), if_neg (by omega)]
                refine WD_i hsp (by omega) ?_ (hfr.S (by omega))
                refine hP.re (n := mn σ) hb0 (congrArg iI (by show _ = ((mn σ + 1 : Nat) : Int); omega)) (congrArg iI (by show _ = ((nx σ + s0 σ : Nat) : Int); omega)) rfl hb2 hb3 hb4 (by omega) ?_ hfr (fun j hj hj2 => ⟨by have h9 : j < mn σ + 1 := hj2; omega, up_n hj, up_n hj⟩)
                show SesL G _ fl (va_up (se σ) (mn σ) _ (mn σ)) (va_up (en σ) (mn σ) _ (mn σ)) _
                rw [up_s, up_s]
                refine SesL.mk2 (t := t_) ho4 hr4 ?_ rfl rfl (congrArg iI (by show _ = ((nx σ : Nat) : Int) + ((s0 σ : Nat) : Int); omega)) rfl rfl rfl
                intro k hk
                dsimp only
                rw [if_pos c104]
                simp only [foundF, hv]
                exact ht_ k hk
          · refine r_bipush E dX1_beginSession_57 (by decide) ?_
            refine e_iret (rm := ({ frames := 4, cells := 0, slots := 0, locals := 94 } : Room)) (v := iI ((-4))) E hL dX1_beginSession_59 ?_
            exact WD_i (w := -4) (τ := σ) (by unfold spBegin; rw [if_neg (by omega), if_neg (by rw [hop]; decide), if_pos (by omega)]) rfl hP FrS.rf
      · have hn := (opn_some hop).1
        have hn0 := (opn_some hop).2
        have hrow := hI.row (n := n) (by omega)
        refine lv_ifnull E.1 E.2.1 dX1_beginSession_16 ?_
        refine r_bipush E dX1_beginSession_19 (by decide) ?_
        refine e_iret (rm := ({ frames := 4, cells := 0, slots := 0, locals := 94 } : Room)) (v := iI ((-5))) E hL dX1_beginSession_21 ?_
        exact WD_i (w := -5) (τ := σ) (by unfold spBegin; rw [if_neg (by omega), if_pos (by rw [hop]; rfl)]) rfl hP FrS.rf
    · refine r_bipush E dX1_beginSession_9 (by decide) ?_
      refine e_iret (rm := ({ frames := 4, cells := 0, slots := 0, locals := 94 } : Room)) (v := iI ((-2))) E hL dX1_beginSession_11 ?_
      exact WD_i (by unfold spBegin; rw [if_pos (by omega)]) rfl hP FrS.rf

set_option maxHeartbeats 4000000 in
set_option maxRecDepth 100000 in
theorem c_X1_writeFile (G : GG) (l : Launch) (b fb : Nat) (fl : Nat → Option Fil) (σ : St) (hI : Inv σ) (x y : Int) (hx : okI x) (hy : okI y) (hga : G.2.2 ≤ b) (hfb : b + 29 ≤ fb) : Ct G l yX1_writeFile cX1_writeFile 5 (some .int) ({ frames := 3, cells := 1, slots := 3, locals := 63 } : Room) [.ref (b), .int (iI (x)), .int (iI (y))] (fun H => DiscAt G b fl σ H ∧ FlAt G fb fl H ∧ fb ≤ H.size) (WDF G b fb fl (spWrite σ x y)) := by
  refine Ct.of (by decide +kernel) (Nat.le_of_ble_eq_true rfl) ?_
  intro p e s m args below meth c ls E hnm hP hl
  have i1 := hI.mn12
  have i2 := hI.nx240
  obtain ⟨hP, hFl, hfs⟩ := hP
  have hb0 := hP.1
  have hb2 := hP.2.2.1
  have hb3 := hP.2.2.2.1
  have hb4 := hP.2.2.2.2.1
  obtain ⟨hx1, hx2⟩ := hx
  obtain ⟨hy1, hy2⟩ := hy
  have hl : lv_has ls 5 [(0, .ref (b)), (1, .int (iI (x))), (2, .int (iI (y)))] := hl
  have hL : Lk G [] := Lk.nil
  generalize ([] : List Loc) = locs at hL ⊢
  refine lv_iload_n E.1 E.2.1 dX1_writeFile_0 rfl (lv_at hl 1 rfl) ?_
  refine kSNRE (As := [.int (iI (x))]) E cw_X1_65 (c_X5_isName G l (x) (by unfold okI; omega)) trivial hL hl.1 rfl rfl (Nat.le_of_ble_eq_true rfl) ⟨Nat.le_of_ble_eq_true rfl, Nat.le_of_ble_eq_true rfl⟩ ⟨rfl, rfl⟩ ⟨Nat.le_of_ble_eq_true rfl, Nat.le_of_ble_eq_true rfl⟩ dX1_writeFile_1 (fun locs hL => ?_)
  refine r_bif_ne (tgt := 9) E dX1_writeFile_4 (by decide)  (fun c4 => ?_) (fun c4 => ?_)
  · have c4 := of_decide_eq_true c4
    obtain ⟨k, rfl⟩ : ∃ k : Nat, x = (k : Int) := ⟨x.toNat, by omega⟩
    refine lv_iload_n E.1 E.2.1 dX1_writeFile_9 rfl (lv_at hl 2 rfl) ?_
    refine kSNRE (As := [.int (iI (y))]) E cw_X1_69 (c_X5_isFileSize G l (y) (by unfold okI; omega)) trivial hL hl.1 rfl rfl (Nat.le_of_ble_eq_true rfl) ⟨Nat.le_of_ble_eq_true rfl, Nat.le_of_ble_eq_true rfl⟩ ⟨rfl, rfl⟩ ⟨Nat.le_of_ble_eq_true rfl, Nat.le_of_ble_eq_true rfl⟩ dX1_writeFile_10 (fun locs hL => ?_)
    refine r_bif_ne (tgt := 19) E dX1_writeFile_13 (by decide)  (fun c13 => ?_) (fun c13 => ?_)
    · have c13 := of_decide_eq_true c13
      obtain ⟨z, rfl⟩ : ∃ z : Nat, y = (z : Int) := ⟨y.toNat, by omega⟩
      refine lv_aload_n E.1 E.2.1 dX1_writeFile_19 rfl (lv_at hl 0 rfl) ?_
      refine kVQE (As := []) E cw_X1_43 (c_X1_openSession G l b fl σ hI) hP.1 ⟨_, _, rfl⟩ hP hL hl.1 rfl rfl (Nat.le_of_ble_eq_true rfl) ⟨Nat.le_of_ble_eq_true rfl, Nat.le_of_ble_eq_true rfl⟩ ⟨rfl, rfl⟩ ⟨Nat.le_of_ble_eq_true rfl, Nat.le_of_ble_eq_true rfl⟩ dX1_writeFile_20 (fun locs hL => ?_)
      rcases hop : opn σ with _ | n
      · refine lv_astore_nN (lv' := [(3, .null), (0, .ref (b)), (1, .int (iI ((k : Int)))), (2, .int (iI ((z : Int))))]) E.1 E.2.1 dX1_writeFile_23 rfl hl (by decide) rfl (fun ls hl => ?_)
        refine lv_aload_nN E.1 E.2.1 dX1_writeFile_24 rfl (lv_at hl 0 rfl) ?_
        refine lv_ifnonnullN E.1 E.2.1 dX1_writeFile_25 ?_
        refine r_bipush E dX1_writeFile_28 (by decide) ?_
        refine W.widen (k := 1) (n := 3) (by omega) (by omega) ?_
        refine e_iret (rm := ({ frames := 3, cells := 1, slots := 3, locals := 63 } : Room)) (v := iI ((-5))) E hL dX1_writeFile_30 ?_
        exact WDF_i (w := -5) (τ := σ) (by unfold spWrite; rw [if_neg (by omega), if_neg (by omega)]; simp only [hop]) rfl hP hFl
      · have hn := (opn_some hop).1
        have hn0 := (opn_some hop).2
        have hrow := hI.row (n := n) (by omega)
        obtain ⟨t_, ho_, hr_, ht_⟩ := hP.live (n := n) (by omega) (by omega)
        refine lv_astore_n (lv' := [(3, .ref (b + 5 + 2 * n)), (0, .ref (b)), (1, .int (iI ((k : Int)))), (2, .int (iI ((z : Int))))]) E.1 E.2.1 dX1_writeFile_23 rfl hl (by decide) rfl (fun ls hl => ?_)
        refine lv_aload_n E.1 E.2.1 dX1_writeFile_24 rfl (lv_at hl 0 rfl) ?_
        refine lv_ifnonnull (tgt := 31) E.1 E.2.1 dX1_writeFile_25 (by decide) ?_
        refine lv_iload_n E.1 E.2.1 dX1_writeFile_31 rfl (lv_at hl 3 rfl) ?_
        refine lv_aload_n E.1 E.2.1 dX1_writeFile_32 rfl (lv_at hl 1 rfl) ?_
        refine kVRE (As := []) E cw_X1_72 (c_X1_roomForFiles G l b fl σ hI) hP.1 ⟨_, _, rfl⟩ hP hL hl.1 rfl rfl (Nat.le_of_ble_eq_true rfl) ⟨Nat.le_of_ble_eq_true rfl, Nat.le_of_ble_eq_true rfl⟩ ⟨rfl, rfl⟩ ⟨Nat.le_of_ble_eq_true rfl, Nat.le_of_ble_eq_true rfl⟩ dX1_writeFile_33 (fun locs hL => ?_)
        refine r_icmp_le (tgt := 42) E dX1_writeFile_36 (by decide) (by omega) (by have := roomN_le σ; omega) (fun c36 => ?_) (fun c36 => ?_)
        · obtain ⟨N, hN⟩ : ∃ N, N = s.heap.size := ⟨_, rfl⟩
          have hsz : s.heap.size = N := hN.symm
          have hlt := hP.lt
          have hlast := hI.last n hn
          refine m_new E nw_X1_76 (Nat.le_of_ble_eq_true rfl) (Nat.le_of_ble_eq_true rfl) dX1_writeFile_42 (fun H1 hn2 hPu_ => ?_)
          rw [hsz] at hn2
          rw [hsz]
          have hb0 := hb0.kept (hPu_.2 _ (by omega))
          have hb2 := hb2.kept (hPu_.2 _ (by omega))
          have hb3 := hb3.kept (hPu_.2 _ (by omega))
          have hb4 := hb4.kept (hPu_.2 _ (by omega))
          have ho_ := ho_.kept (hPu_.2 _ (by omega))
          have hr_ := hr_.kept (hPu_.2 _ (by omega))
          have hsz : H1.size = N + 1 := by rw [hPu_.1]; omega
          refine lv_dup E.1 E.2.1 dX1_writeFile_45 rfl ?_
          refine lv_aload_n E.1 E.2.1 dX1_writeFile_46 rfl (lv_at hl 1 rfl) ?_
          refine m_get E hb0 fw_X1_33 rfl dX1_writeFile_47 ?_
          refine lv_iload_n E.1 E.2.1 dX1_writeFile_50 rfl (lv_at hl 3 rfl) ?_
          refine lv_aload_n E.1 E.2.1 dX1_writeFile_51 rfl (lv_at hl 1 rfl) ?_
          refine m_get E hb0 fw_X1_29 rfl dX1_writeFile_52 ?_
          refine r_const E dX1_writeFile_55 ?_
          refine r_sub E dX1_writeFile_56 ?_
          rw [show (((mn σ : Int) - 1 : Int)) = (n : Int) by omega]
          refine kIWV (As := [.int (iI ((nx σ : Int))), .int (iI ((z : Int))), .int (iI ((n : Int)))]) E cw_X1_78 (c_X4_init G l N ((nx σ : Int)) ((z : Int)) ((n : Int)) (by omega)) hn2 hL hl.1 rfl rfl (Nat.le_of_ble_eq_true rfl) ⟨Nat.le_of_ble_eq_true rfl, Nat.le_of_ble_eq_true rfl⟩ ⟨Nat.le_of_ble_eq_true rfl, Nat.le_of_ble_eq_true rfl⟩ dX1_writeFile_57 (fun H3 locs hL hw_ => ?_)
          obtain ⟨hof, hq⟩ := hw_
          have hb0 := hb0.kept (hq.2 _ (by omega))
          have hb2 := hb2.kept (hq.2 _ (by omega))
          have hb3 := hb3.kept (hq.2 _ (by omega))
          have hb4 := hb4.kept (hq.2 _ (by omega))
          have ho_ := ho_.kept (hq.2 _ (by omega))
          have hr_ := hr_.kept (hq.2 _ (by omega))
          have hPu2 : Pu s.heap H3 := ⟨hq.1.trans hPu_.1, fun q h9 => (hq.2 q (by omega)).trans (hPu_.2 q h9)⟩
          have hP2 : DiscAt G b fl σ H3 := hP.kept (fun q h1 h2 => hPu2.2 q (by omega))
          have hsz : H3.size = N + 1 := hq.1.trans hsz
          have hfr : FrD b n H3 H3 := FrD.rf
          refine lv_astore (lv' := [(4, .ref (N)), (3, .ref (b + 5 + 2 * n)), (0, .ref (b)), (1, .int (iI ((k : Int)))), (2, .int (iI ((z : Int))))]) E.1 E.2.1 dX1_writeFile_60 hl (by decide) rfl (fun ls hl => ?_)
          refine lv_aload_n E.1 E.2.1 dX1_writeFile_62 rfl (lv_at hl 1 rfl) ?_
          refine lv_iload_n E.1 E.2.1 dX1_writeFile_63 rfl (lv_at hl 3 rfl) ?_
          refine lv_aload E.1 E.2.1 dX1_writeFile_64 (lv_at hl 0 rfl) ?_
          refine kVWV (As := [.int (iI ((k : Int))), .ref (N)]) E cw_X1_80 (c_X3_putFile G l (b + 5 + 2 * n) ((k : Int)) (some (N)) (encR (se σ n)) t_ (by omega) (by omega)) ho_ ⟨_, _, rfl⟩ ⟨⟨ho_, hr_⟩, (fun _ h => by cases h; exact ⟨_, hof⟩)⟩ hL hl.1 rfl rfl (Nat.le_of_ble_eq_true rfl) ⟨Nat.le_of_ble_eq_true rfl, Nat.le_of_ble_eq_true rfl⟩ ⟨Nat.le_of_ble_eq_true rfl, Nat.le_of_ble_eq_true rfl⟩ dX1_writeFile_66 (fun H4 locs hL hw_ => ?_)
          obtain ⟨⟨ho1, hr1⟩, hq⟩ := hw_
          rw [Int.toNat_natCast] at hr1
          have hb0 := hb0.kept (hq.2 _ (by omega))
          have hb2 := hb2.kept (hq.2 _ (by omega))
          have hb3 := hb3.kept (hq.2 _ (by omega))
          have hb4 := hb4.kept (hq.2 _ (by omega))
          have hof := hof.kept (hq.2 _ (by omega))
          have hfr := hfr.ses hq (by omega) (by omega)
          have hsz : H4.size = N + 1 := hq.1.trans hsz
          have ho_ : Ob G (b + 5 + 2 * n) 3 [.ref (b + 5 + 2 * n + 1), .int (iI ((se σ n 0 : Int))), .int (iI ((se σ n 1 : Int))), .int (iI (((se σ n 1 : Int) + (se σ n 2 : Int)))), .int (iI ((se σ n 3 : Int))), .int (iI ((se σ n 4 : Int))), .int (iI ((se σ n 5 : Int)))] H4 := ho1
          have hr_ := hr1
          refine lv_aload_n E.1 E.2.1 dX1_writeFile_69 rfl (lv_at hl 1 rfl) ?_
          refine lv_dup E.1 E.2.1 dX1_writeFile_70 rfl ?_
          refine m_get E ho_ fw_X1_84 rfl dX1_writeFile_71 ?_
          refine r_const E dX1_writeFile_74 ?_
          refine r_add E dX1_writeFile_75 ?_
          refine m_put E ho_ fw_X1_84 fp_X3_6 rfl rfl (Nat.le_of_ble_eq_true rfl) hL (by omega) dX1_writeFile_76 (fun H5 locs hL hO_ hF_ => ?_)
          have hb0 := hb0.kept (hF_.2 _ (by omega))
          have hb2 := hb2.kept (hF_.2 _ (by omega))
          have hb3 := hb3.kept (hF_.2 _ (by omega))
          have hb4 := hb4.kept (hF_.2 _ (by omega))
          have hr_ := hr_.kept (hF_.2 _ (by omega))
          have hof := hof.kept (hF_.2 _ (by omega))
          have hsz : H5.size = N + 1 := hF_.1.trans hsz
          have hfr := hfr.one hF_ (by omega)
          have ho_ : Ob G (b + 5 + 2 * n) 3 [.ref (b + 5 + 2 * n + 1), .int (iI ((se σ n 0 : Int))), .int (iI ((se σ n 1 : Int))), .int (iI (((se σ n 1 : Int) + (se σ n 2 : Int)))), .int (iI ((se σ n 3 : Int))), .int (iI ((se σ n 4 : Int))), .int (iI ((se σ n 5 : Int) + 1))] H5 := hO_
          clear hO_
          refine lv_aload_n E.1 E.2.1 dX1_writeFile_79 rfl (lv_at hl 2 rfl) ?_
          refine m_get E hb0 fw_X1_21 rfl dX1_writeFile_80 ?_
          refine lv_iload_n E.1 E.2.1 dX1_writeFile_83 rfl (lv_at hl 3 rfl) ?_
          refine lv_dup2_11 E.1 E.2.1 dX1_writeFile_84 rfl rfl ?_
          refine r_iald E hb3 (k) rfl (by omega) (by decide) dX1_writeFile_85 ?_
          refine r_const E dX1_writeFile_86 ?_
          refine r_add E dX1_writeFile_87 ?_
          refine r_iast E hb3 (k) rfl (by omega) (by decide) hL (by omega) dX1_writeFile_88 (fun H6 locs hL hO_ hF_ => ?_)
          have hb0 := hb0.kept (hF_.2 _ (by omega))
          have hb2 := hb2.kept (hF_.2 _ (by omega))
          have hb4 := hb4.kept (hF_.2 _ (by omega))
          have ho_ := ho_.kept (hF_.2 _ (by omega))
          have hr_ := hr_.kept (hF_.2 _ (by omega))
          have hof := hof.kept (hF_.2 _ (by omega))
          have hsz : H6.size = N + 1 := hF_.1.trans hsz
          have hfr := hfr.one hF_ (by omega)
          have hb3 : Ia G (b + 3) 0 20 (upd (fun k => iI (vr σ k)) (k) (iI (((vr σ (k) : Int)) + 1))) H6 := hO_
          clear hO_
          refine lv_aload_n E.1 E.2.1 dX1_writeFile_89 rfl (lv_at hl 2 rfl) ?_
          refine lv_dup E.1 E.2.1 dX1_writeFile_90 rfl ?_
          refine m_get E hb0 fw_X1_33 rfl dX1_writeFile_91 ?_
          refine lv_iload_n E.1 E.2.1 dX1_writeFile_94 rfl (lv_at hl 4 rfl) ?_
          refine r_add E dX1_writeFile_95 ?_
          refine m_put E hb0 fw_X1_33 fp_X1_5 rfl rfl (Nat.le_of_ble_eq_true rfl) hL (by omega) dX1_writeFile_96 (fun H7 locs hL hO_ hF_ => ?_)
          have hb2 := hb2.kept (hF_.2 _ (by omega))
          have hb3 := hb3.kept (hF_.2 _ (by omega))
          have hb4 := hb4.kept (hF_.2 _ (by omega))
          have ho_ := ho_.kept (hF_.2 _ (by omega))
          have hr_ := hr_.kept (hF_.2 _ (by omega))
          have hof := hof.kept (hF_.2 _ (by omega))
          have hsz : H7.size = N + 1 := hF_.1.trans hsz
          have hfr := hfr.one hF_ (by omega)
          have hb0 : Ob G (b) 1 [.ref (b + 1), .ref (b + 2), .ref (b + 3), .ref (b + 4), .int (iI ((mn σ : Int))), .int (iI ((nx σ : Int) + (z : Int))), .int (iI ((cntB (dm σ) 240 : Int)))] H7 := hO_
          clear hO_
          refine lv_aload_n E.1 E.2.1 dX1_writeFile_99 rfl (lv_at hl 1 rfl) ?_
          refine lv_aload_n E.1 E.2.1 dX1_writeFile_100 rfl (lv_at hl 2 rfl) ?_
          refine m_get E hb0 fw_X1_33 rfl dX1_writeFile_101 ?_
          refine m_put E ho_ fw_X1_62 fp_X3_3 rfl rfl (Nat.le_of_ble_eq_true rfl) hL (by omega) dX1_writeFile_104 (fun H8 locs hL hO_ hF_ => ?_)
          have hb0 := hb0.kept (hF_.2 _ (by omega))
          have hb2 := hb2.kept (hF_.2 _ (by omega))
          have hb3 := hb3.kept (hF_.2 _ (by omega))
          have hb4 := hb4.kept (hF_.2 _ (by omega))
          have hr_ := hr_.kept (hF_.2 _ (by omega))
          have hof := hof.kept (hF_.2 _ (by omega))
          have hsz : H8.size = N + 1 := hF_.1.trans hsz
          have hfr := hfr.one hF_ (by omega)
          have ho_ : Ob G (b + 5 + 2 * n) 3 [.ref (b + 5 + 2 * n + 1), .int (iI ((se σ n 0 : Int))), .int (iI ((se σ n 1 : Int))), .int (iI ((nx σ : Int) + (z : Int))), .int (iI ((se σ n 3 : Int))), .int (iI ((se σ n 4 : Int))), .int (iI ((se σ n 5 : Int) + 1))] H8 := hO_
          clear hO_
          refine lv_aload E.1 E.2.1 dX1_writeFile_107 (lv_at hl 0 rfl) ?_
          refine m_get E hof fw_X1_87 rfl dX1_writeFile_109 ?_
          refine e_iret (rm := ({ frames := 3, cells := 1, slots := 3, locals := 63 } : Room)) (v := iI ((nx σ : Int))) E hL dX1_writeFile_112 ?_
          have hsp : spWrite σ k z = ((nx σ : Int), mkS (nx σ + z) (mn σ) (s0 σ) (s1 σ) (dm σ) (va_up (vr σ) k (vr σ k + 1)) (va_up (se σ) n (va_up (va_up (se σ n) 2 (se σ n 2 + z)) 5 (se σ n 5 + 1))) (va_up (en σ) n (va_up (en σ n) k (some (nx σ, z, n))))) := by
            unfold spWrite
            rw [if_neg (by omega), if_neg (by omega)]
            simp only [hop, Int.toNat_natCast]
            rw [if_neg (by simp only [roomN, hop] at c36; omega)]
          have hE : Ext fl (va_up fl N (some (nx σ, z, n))) := by
            intro a f hf
            have h9 := (hFl.2 a f hf).2.lt
            rw [up_n (by omega)]; exact hf
          have hto : TabOk (va_up fl N (some (nx σ, z, n))) (va_up t_ k (some N)) (va_up (en σ n) k (some (nx σ, z, n))) := (ht_.ext hE).up (by show va_up fl N _ N = _; rw [up_s]) (fun a h => by cases h; exact ⟨_, up_s⟩)
          have hS9 := hfr.S (n := n) (by omega)
          refine WDF_w hsp rfl hE ?_ ?_ hS9 hPu2
          · refine (hP2.ext hE).re (n := n) hb0 rfl (congrArg iI (by show _ = ((nx σ + z : Nat) : Int); omega)) rfl hb2 (hb3.to (fun j _ => upd_i2 j)) hb4 (by omega) ?_ hfr (fun j hj hj2 => ⟨hj2, up_n hj, up_n hj⟩)
            show SesL G _ _ (va_up (se σ) n _ n) (va_up (en σ) n _ n) _
            rw [up_s, up_s]
            exact SesL.mk2 ho_ hr_ hto rfl rfl (congrArg iI (by show _ = ((se σ n 1 : Nat) : Int) + ((se σ n 2 + z : Nat) : Int); omega)) rfl rfl rfl
          · refine ⟨by omega, fun a f hf => ?_⟩
            by_cases ha : a = N
            · subst ha; rw [up_s] at hf; cases hf; exact ⟨by omega, hof⟩
            · rw [up_n ha] at hf
              obtain ⟨h8, h9⟩ := hFl.2 a f hf
              have h10 := h9.lt
              exact ⟨h8, (h9.kept (hPu2.2 a h10)).kept (hS9.2 a (by omega))⟩
        · refine r_bipush E dX1_writeFile_39 (by decide) ?_
          refine W.widen (k := 1) (n := 3) (by omega) (by omega) ?_
          refine e_iret (rm := ({ frames := 3, cells := 1, slots := 3, locals := 63 } : Room)) (v := iI ((-4))) E hL dX1_writeFile_41 ?_
          exact WDF_i (w := -4) (τ := σ) (by unfold spWrite; rw [if_neg (by omega), if_neg (by omega)]; simp only [hop, Int.toNat_natCast]; rw [if_pos (by simp only [roomN, hop] at c36; omega)]) rfl hP hFl
    · have c13 := of_decide_eq_false c13
      refine r_bipush E dX1_writeFile_16 (by decide) ?_
      refine W.widen (k := 1) (n := 3) (by omega) (by omega) ?_
      refine e_iret (rm := ({ frames := 3, cells := 1, slots := 3, locals := 63 } : Room)) (v := iI ((-2))) E hL dX1_writeFile_18 ?_
      exact WDF_i (w := -2) (τ := σ) (by unfold spWrite; rw [if_neg (by omega), if_pos (by omega)]) rfl hP hFl
  · have c4 := of_decide_eq_false c4
    refine r_const E dX1_writeFile_7 ?_
    refine W.widen (k := 1) (n := 3) (by omega) (by omega) ?_
    refine e_iret (rm := ({ frames := 3, cells := 1, slots := 3, locals := 63 } : Room)) (v := iI ((-1))) E hL dX1_writeFile_8 ?_
    exact WDF_i (w := -1) (τ := σ) (by unfold spWrite; rw [if_pos (by omega)]) rfl hP hFl
end
section
set_option maxHeartbeats 4000000 in
set_option maxRecDepth 100000 in
theorem c_X1_copyAll (G : GG) (l : Launch) (b b2 fb : Nat) (fl : Nat → Option Fil) (σ τ : St) (hmn : mn τ ≤ 12) (hga : G.2.2 ≤ b) (hd : b + 29 ≤ b2 ∨ b2 + 29 ≤ b) (hfb : b + 29 ≤ fb) : Ct G l yX1_copyAll cX1_copyAll 3 none ({ frames := 2, cells := 0, slots := 0, locals := 43 } : Room) [.ref (b), .ref (b2)] (fun H => DiscAt G b fl σ H ∧ DiscAt G b2 fl τ H ∧ FlAt G fb fl H) (WV (fun H H1 => DiscAt G b fl τ H1 ∧ FrS b (b + 29) H H1)) := by
  refine Ct.of (by decide +kernel) (Nat.le_of_ble_eq_true rfl) ?_
  intro p e s m args below meth c ls E hnm hP hl
  obtain ⟨hP, hP20, hFl0⟩ := hP
  obtain ⟨hb0, hb1, hb2, hb3, hb4, hbD, -⟩ := hP
  have hb20 := hP20.1
  have hF : FrS b (b + 29) s.heap s.heap := FrS.rf
  have hl : lv_has ls 3 [(0, .ref (b)), (1, .ref (b2))] := hl
  have hL : Lk G [] := Lk.nil
  generalize ([] : List Loc) = locs at hL ⊢
  refine lv_aload_n E.1 E.2.1 dX1_copyAll_0 rfl (lv_at hl 0 rfl) ?_
  refine lv_aload_n E.1 E.2.1 dX1_copyAll_1 rfl (lv_at hl 1 rfl) ?_
  refine m_get E hb20 fw_X1_29 rfl dX1_copyAll_2 ?_
  refine m_put E hb0 fw_X1_29 fp_X1_4 rfl rfl (Nat.le_of_ble_eq_true rfl) hL (by omega) dX1_copyAll_5 (fun H1 locs hL hO_ hF_ => ?_)
  have hb1 := hb1.kept (hF_.2 _ (by omega))
  have hb2 := hb2.kept (hF_.2 _ (by omega))
  have hb3 := hb3.kept (hF_.2 _ (by omega))
  have hb4 := hb4.kept (hF_.2 _ (by omega))
  have hb20 := hb20.kept (hF_.2 _ (by omega))
  have hF := hF.trans (FrS.of1 (lo := b) (hi := b + 29) hF_ (by omega) (by omega))
  have hbD : ∀ n, n < 12 → SesD G (b + 5 + 2 * n) H1 := fun n hn => (hbD n hn).kept (hF_.2 _ (by omega)) (hF_.2 _ (by omega))
  have hb0 : Ob G (b) 1 [.ref (b + 1), .ref (b + 2), .ref (b + 3), .ref (b + 4), .int (iI ((mn τ : Int))), .int (iI ((nx σ : Int))), .int (iI ((cntB (dm σ) 240 : Int)))] H1 := hO_
  clear hO_
  refine lv_aload_n E.1 E.2.1 dX1_copyAll_8 rfl (lv_at hl 0 rfl) ?_
  refine lv_aload_n E.1 E.2.1 dX1_copyAll_9 rfl (lv_at hl 1 rfl) ?_
  refine m_get E hb20 fw_X1_33 rfl dX1_copyAll_10 ?_
  refine m_put E hb0 fw_X1_33 fp_X1_5 rfl rfl (Nat.le_of_ble_eq_true rfl) hL (by omega) dX1_copyAll_13 (fun H2 locs hL hO_ hF_ => ?_)
  have hb1 := hb1.kept (hF_.2 _ (by omega))
  have hb2 := hb2.kept (hF_.2 _ (by omega))
  have hb3 := hb3.kept (hF_.2 _ (by omega))
  have hb4 := hb4.kept (hF_.2 _ (by omega))
  have hb20 := hb20.kept (hF_.2 _ (by omega))
  have hF := hF.trans (FrS.of1 (lo := b) (hi := b + 29) hF_ (by omega) (by omega))
  have hbD : ∀ n, n < 12 → SesD G (b + 5 + 2 * n) H2 := fun n hn => (hbD n hn).kept (hF_.2 _ (by omega)) (hF_.2 _ (by omega))
  have hb0 : Ob G (b) 1 [.ref (b + 1), .ref (b + 2), .ref (b + 3), .ref (b + 4), .int (iI ((mn τ : Int))), .int (iI ((nx τ : Int))), .int (iI ((cntB (dm σ) 240 : Int)))] H2 := hO_
  clear hO_
  refine lv_aload_n E.1 E.2.1 dX1_copyAll_16 rfl (lv_at hl 0 rfl) ?_
  refine lv_aload_n E.1 E.2.1 dX1_copyAll_17 rfl (lv_at hl 1 rfl) ?_
  refine m_get E hb20 fw_X1_36 rfl dX1_copyAll_18 ?_
  refine m_put E hb0 fw_X1_36 fp_X1_6 rfl rfl (Nat.le_of_ble_eq_true rfl) hL (by omega) dX1_copyAll_21 (fun H3 locs hL hO_ hF_ => ?_)
  have hb1 := hb1.kept (hF_.2 _ (by omega))
  have hb2 := hb2.kept (hF_.2 _ (by omega))
  have hb3 := hb3.kept (hF_.2 _ (by omega))
  have hb4 := hb4.kept (hF_.2 _ (by omega))
  have hb20 := hb20.kept (hF_.2 _ (by omega))
  have hF := hF.trans (FrS.of1 (lo := b) (hi := b + 29) hF_ (by omega) (by omega))
  have hbD : ∀ n, n < 12 → SesD G (b + 5 + 2 * n) H3 := fun n hn => (hbD n hn).kept (hF_.2 _ (by omega)) (hF_.2 _ (by omega))
  have hb0 : Ob G (b) 1 [.ref (b + 1), .ref (b + 2), .ref (b + 3), .ref (b + 4), .int (iI ((mn τ : Int))), .int (iI ((nx τ : Int))), .int (iI ((cntB (dm τ) 240 : Int)))] H3 := hO_
  clear hO_
  have hC : CopyAt G b fl τ 0 (fun k => b2i (dm σ k)) (fun k => iI (vr σ k)) (fun k => if k = 0 then iI (s0 σ) else iI (s1 σ)) H3 := ⟨hb0, hb1, hb2, hb3, hb4, hbD, fun n hn => absurd hn (Nat.not_lt_zero n)⟩
  have J61 : ∀ (K : Nat) (H : Heap) (ls : Array Slot) (locs : List Loc) (hK : mn τ ≤ K ∨ 12 ≤ K) (hC : CopyAt G b fl τ K (fun k => b2i (dm σ k)) (fun k => iI (vr σ k)) (fun k => if k = 0 then iI (s0 σ) else iI (s1 σ)) H) (hF : FrS b (b + 29) s.heap H) (hl : lv_has ls 3 [(0, .ref (b)), (1, .ref (b2))]) (hL : Lk G locs), W p l e ({ frames := 2, cells := 0, slots := 0, locals := 43 } : Room) s m args below meth c H locs 0 0 (QQ G below args s ({ frames := 2, cells := 0, slots := 0, locals := 43 } : Room) (WV (fun H H1 => DiscAt G b fl τ H1 ∧ FrS b (b + 29) H H1))) (F0 m 61 ls []) := by
    intro K H ls locs hK hC hF hl hL
    refine r_const E dX1_copyAll_61 ?_
    refine lv_istore_n (lv' := [(2, .int (iI (0))), (0, .ref (b)), (1, .ref (b2))]) E.1 E.2.1 dX1_copyAll_62 rfl hl (by decide) rfl (fun ls hl => ?_)
    have LP63 : ∀ (kin63 : Nat) (k : Nat) (H : Heap) (u : Int) (ls : Array Slot) (locs : List Loc) (hk : k ≤ 240) (hu : u = (k : Int)) (hC : CopyAt G b fl τ K (fun j => if j < k then (fun k => b2i (dm τ k)) j else (fun k => b2i (dm σ k)) j) (fun k => iI (vr σ k)) (fun k => if k = 0 then iI (s0 σ) else iI (s1 σ)) H) (hF : FrS b (b + 29) s.heap H) (hkin63 : 240 - k = kin63) (hl : lv_has ls 3 [(2, .int (iI (u))), (0, .ref (b)), (1, .ref (b2))]) (hL : Lk G locs), W p l e ({ frames := 2, cells := 0, slots := 0, locals := 43 } : Room) s m args below meth c H locs 0 0 (QQ G below args s ({ frames := 2, cells := 0, slots := 0, locals := 43 } : Room) (WV (fun H H1 => DiscAt G b fl τ H1 ∧ FrS b (b + 29) H H1))) (F0 m 63 ls []) := by
      intro kin63
      induction kin63 using Nat.strongRecOn with
      | ind kin63 ihin63 =>
        intro k H u ls locs hk hu hC hF hkin63 hl hL
        have hP2 : DiscAt G b2 fl τ H := hP20.kept (fun q h1 h2 => hF.2 q (by omega))
        have hcur := hC.2.2.1
        refine lv_iload_n E.1 E.2.1 dX1_copyAll_63 rfl (lv_at hl 0 rfl) ?_
        refine r_sipush E dX1_copyAll_64 (by decide) ?_
        refine r_icmp_ge (tgt := 88) E dX1_copyAll_67 (by decide) (by omega) (by omega) (fun c67 => ?_) (fun c67 => ?_)
        · refine r_const E dX1_copyAll_88 ?_
          refine lv_istore_n (lv' := [(2, .int (iI (0))), (0, .ref (b)), (1, .ref (b2))]) E.1 E.2.1 dX1_copyAll_89 rfl hl (by decide) rfl (fun ls hl => ?_)
          have LP90 : ∀ (kin90 : Nat) (k : Nat) (H : Heap) (u : Int) (ls : Array Slot) (locs : List Loc) (hk : k ≤ 20) (hu : u = (k : Int)) (hC : CopyAt G b fl τ K (fun k => b2i (dm τ k)) (fun j => if j < k then (fun k => iI (vr τ k)) j else (fun k => iI (vr σ k)) j) (fun k => if k = 0 then iI (s0 σ) else iI (s1 σ)) H) (hF : FrS b (b + 29) s.heap H) (hkin90 : 20 - k = kin90) (hl : lv_has ls 3 [(2, .int (iI (u))), (0, .ref (b)), (1, .ref (b2))]) (hL : Lk G locs), W p l e ({ frames := 2, cells := 0, slots := 0, locals := 43 } : Room) s m args below meth c H locs 0 0 (QQ G below args s ({ frames := 2, cells := 0, slots := 0, locals := 43 } : Room) (WV (fun H H1 => DiscAt G b fl τ H1 ∧ FrS b (b + 29) H H1))) (F0 m 90 ls []) := by
            intro kin90
            induction kin90 using Nat.strongRecOn with
            | ind kin90 ihin90 =>
              intro k H u ls locs hk hu hC hF hkin90 hl hL
              have hP2 : DiscAt G b2 fl τ H := hP20.kept (fun q h1 h2 => hF.2 q (by omega))
              have hcur := hC.2.2.2.1
              refine lv_iload_n E.1 E.2.1 dX1_copyAll_90 rfl (lv_at hl 0 rfl) ?_
              refine r_bipush E dX1_copyAll_91 (by decide) ?_
              refine r_icmp_ge (tgt := 114) E dX1_copyAll_93 (by decide) (by omega) (by omega) (fun c93 => ?_) (fun c93 => ?_)
              · refine r_const E dX1_copyAll_114 ?_
                refine lv_istore_n (lv' := [(2, .int (iI (0))), (0, .ref (b)), (1, .ref (b2))]) E.1 E.2.1 dX1_copyAll_115 rfl hl (by decide) rfl (fun ls hl => ?_)
                have LP116 : ∀ (kin116 : Nat) (k : Nat) (H : Heap) (u : Int) (ls : Array Slot) (locs : List Loc) (hk : k ≤ 2) (hu : u = (k : Int)) (hC : CopyAt G b fl τ K (fun k => b2i (dm τ k)) (fun k => iI (vr τ k)) (fun j => if j < k then (fun k => if k = 0 then iI (s0 τ) else iI (s1 τ)) j else (fun k => if k = 0 then iI (s0 σ) else iI (s1 σ)) j) H) (hF : FrS b (b + 29) s.heap H) (hkin116 : 2 - k = kin116) (hl : lv_has ls 3 [(2, .int (iI (u))), (0, .ref (b)), (1, .ref (b2))]) (hL : Lk G locs), W p l e ({ frames := 2, cells := 0, slots := 0, locals := 43 } : Room) s m args below meth c H locs 0 0 (QQ G below args s ({ frames := 2, cells := 0, slots := 0, locals := 43 } : Room) (WV (fun H H1 => DiscAt G b fl τ H1 ∧ FrS b (b + 29) H H1))) (F0 m 116 ls []) := by
                  intro kin116
                  induction kin116 using Nat.strongRecOn with
                  | ind kin116 ihin116 =>
                    intro k H u ls locs hk hu hC hF hkin116 hl hL
                    have hP2 : DiscAt G b2 fl τ H := hP20.kept (fun q h1 h2 => hF.2 q (by omega))
                    have hcur := hC.2.2.2.2.1
                    refine lv_iload_n E.1 E.2.1 dX1_copyAll_116 rfl (lv_at hl 0 rfl) ?_
                    refine r_const E dX1_copyAll_117 ?_
                    refine r_icmp_ge (tgt := 139) E dX1_copyAll_118 (by decide) (by omega) (by omega) (fun c118 => ?_) (fun c118 => ?_)
                    · refine e_vret (rm := ({ frames := 2, cells := 0, slots := 0, locals := 43 } : Room)) E hL dX1_copyAll_139 ⟨rfl, ?_⟩
                      refine ⟨?_, hF⟩
                      exact hC.done hK (fun j _ => rfl) (fun j _ => rfl) (fun j hj => if_pos (by omega))
                    · subst hu
                      refine lv_aload_n E.1 E.2.1 dX1_copyAll_121 rfl (lv_at hl 1 rfl) ?_
                      refine m_get E hC.1 fw_X1_25 rfl dX1_copyAll_122 ?_
                      refine lv_iload_n E.1 E.2.1 dX1_copyAll_125 rfl (lv_at hl 0 rfl) ?_
                      refine lv_aload_n E.1 E.2.1 dX1_copyAll_126 rfl (lv_at hl 2 rfl) ?_
                      refine m_get E hP2.1 fw_X1_25 rfl dX1_copyAll_127 ?_
                      refine lv_iload_n E.1 E.2.1 dX1_copyAll_130 rfl (lv_at hl 0 rfl) ?_
                      refine r_iald E hP2.2.2.2.2.1 (k) rfl (by omega) (by decide) dX1_copyAll_131 ?_
                      refine r_iast E hcur (k) rfl (by omega) (by decide) hL (by omega) dX1_copyAll_132 (fun H4 locs hL hO_ hF_ => ?_)
                      have hF9 := hF_
                      have hcur : Ia G (b + 4) 0 2 (upd ((fun j => if j < k then (fun k => if k = 0 then iI (s0 τ) else iI (s1 τ)) j else (fun k => if k = 0 then iI (s0 σ) else iI (s1 σ)) j)) (k) (if k = 0 then iI (s0 τ) else iI (s1 τ))) H4 := hO_
                      clear hO_
                      refine r_inc (lv' := [(2, .int (iI ((k : Int) + 1))), (0, .ref (b)), (1, .ref (b2))]) E dX1_copyAll_133 hl (k := 0) rfl (by decide) rfl (fun ls hl => ?_)
                      refine lv_goto (tgt := 116) E.1 E.2.1 dX1_copyAll_136 (by decide) ?_
                      refine ihin116 _ ?_ (k + 1) H4 ((k : Int) + 1) ls locs ?_ ?_ ?_ ?_ rfl (lv_sub hl [0, 1, 2] rfl) hL
                      · omega
                      · omega
                      · omega
                      · exact hC.ps (hcur.to (fun j _ => upd_if j)) hF9
                      · exact hF.trans (FrS.of1 hF9 (by omega) (by omega))
                refine LP116 _ 0 H 0 ls locs ?_ ?_ ?_ ?_ rfl (lv_sub hl [0, 1, 2] rfl) hL
                · omega
                · rfl
                · obtain ⟨g1, g2, g3, g4, g5, g6, g7⟩ := hC
                  exact ⟨g1, g2, g3, g4.to (fun j hj => by simp; omega), g5, g6, g7⟩
                · exact hF
              · subst hu
                refine lv_aload_n E.1 E.2.1 dX1_copyAll_96 rfl (lv_at hl 1 rfl) ?_
                refine m_get E hC.1 fw_X1_21 rfl dX1_copyAll_97 ?_
                refine lv_iload_n E.1 E.2.1 dX1_copyAll_100 rfl (lv_at hl 0 rfl) ?_
                refine lv_aload_n E.1 E.2.1 dX1_copyAll_101 rfl (lv_at hl 2 rfl) ?_
                refine m_get E hP2.1 fw_X1_21 rfl dX1_copyAll_102 ?_
                refine lv_iload_n E.1 E.2.1 dX1_copyAll_105 rfl (lv_at hl 0 rfl) ?_
                refine r_iald E hP2.2.2.2.1 (k) rfl (by omega) (by decide) dX1_copyAll_106 ?_
                refine r_iast E hcur (k) rfl (by omega) (by decide) hL (by omega) dX1_copyAll_107 (fun H4 locs hL hO_ hF_ => ?_)
                have hF9 := hF_
                have hcur : Ia G (b + 3) 0 20 (upd ((fun j => if j < k then (fun k => iI (vr τ k)) j else (fun k => iI (vr σ k)) j)) (k) (iI (vr τ k))) H4 := hO_
                clear hO_
                refine r_inc (lv' := [(2, .int (iI ((k : Int) + 1))), (0, .ref (b)), (1, .ref (b2))]) E dX1_copyAll_108 hl (k := 0) rfl (by decide) rfl (fun ls hl => ?_)
                refine lv_goto (tgt := 90) E.1 E.2.1 dX1_copyAll_111 (by decide) ?_
                refine ihin90 _ ?_ (k + 1) H4 ((k : Int) + 1) ls locs ?_ ?_ ?_ ?_ rfl (lv_sub hl [0, 1, 2] rfl) hL
                · omega
                · omega
                · omega
                · exact hC.pv (hcur.to (fun j _ => upd_if j)) hF9
                · exact hF.trans (FrS.of1 hF9 (by omega) (by omega))
          refine LP90 _ 0 H 0 ls locs ?_ ?_ ?_ ?_ rfl (lv_sub hl [0, 1, 2] rfl) hL
          · omega
          · rfl
          · obtain ⟨g1, g2, g3, g4, g5, g6, g7⟩ := hC
            exact ⟨g1, g2, g3.to (fun j hj => by simp; omega), g4, g5, g6, g7⟩
          · exact hF
        · subst hu
          refine lv_aload_n E.1 E.2.1 dX1_copyAll_70 rfl (lv_at hl 1 rfl) ?_
          refine m_get E hC.1 fw_X1_17 rfl dX1_copyAll_71 ?_
          refine lv_iload_n E.1 E.2.1 dX1_copyAll_74 rfl (lv_at hl 0 rfl) ?_
          refine lv_aload_n E.1 E.2.1 dX1_copyAll_75 rfl (lv_at hl 2 rfl) ?_
          refine m_get E hP2.1 fw_X1_17 rfl dX1_copyAll_76 ?_
          refine lv_iload_n E.1 E.2.1 dX1_copyAll_79 rfl (lv_at hl 0 rfl) ?_
          refine r_zald E hP2.2.2.1 (k) rfl (by omega) (by decide) dX1_copyAll_80 ?_
          refine r_zast E hcur (k) rfl (by omega) (by decide) hL (by omega) dX1_copyAll_81 (fun H4 locs hL hO_ hF_ => ?_)
          have hF9 := hF_
          have hcur : Ia G (b + 2) 1 240 (upd ((fun j => if j < k then (fun k => b2i (dm τ k)) j else (fun k => b2i (dm σ k)) j)) (k) (b2i (dm τ k))) H4 := hO_
          clear hO_
          refine r_inc (lv' := [(2, .int (iI ((k : Int) + 1))), (0, .ref (b)), (1, .ref (b2))]) E dX1_copyAll_82 hl (k := 0) rfl (by decide) rfl (fun ls hl => ?_)
          refine lv_goto (tgt := 63) E.1 E.2.1 dX1_copyAll_85 (by decide) ?_
          refine ihin63 _ ?_ (k + 1) H4 ((k : Int) + 1) ls locs ?_ ?_ ?_ ?_ rfl (lv_sub hl [0, 1, 2] rfl) hL
          · omega
          · omega
          · omega
          · exact hC.pd (hcur.to (fun j _ => upd_if j)) hF9
          · exact hF.trans (FrS.of1 hF9 (by omega) (by omega))
    refine LP63 _ 0 H 0 ls locs ?_ ?_ ?_ ?_ rfl (lv_sub hl [0, 1, 2] rfl) hL
    · omega
    · rfl
    · exact hC
    · exact hF
  refine r_const E dX1_copyAll_24 ?_
  refine lv_istore_n (lv' := [(2, .int (iI (0))), (0, .ref (b)), (1, .ref (b2))]) E.1 E.2.1 dX1_copyAll_25 rfl hl (by decide) rfl (fun ls hl => ?_)
  have LP26 : ∀ (kin26 : Nat) (k : Nat) (H : Heap) (u : Int) (ls : Array Slot) (locs : List Loc) (hk : k ≤ 12) (hu : u = (k : Int)) (hC : CopyAt G b fl τ k (fun k => b2i (dm σ k)) (fun k => iI (vr σ k)) (fun k => if k = 0 then iI (s0 σ) else iI (s1 σ)) H) (hF : FrS b (b + 29) s.heap H) (hkin26 : 12 - k = kin26) (hl : lv_has ls 3 [(2, .int (iI (u))), (0, .ref (b)), (1, .ref (b2))]) (hL : Lk G locs), W p l e ({ frames := 2, cells := 0, slots := 0, locals := 43 } : Room) s m args below meth c H locs 0 0 (QQ G below args s ({ frames := 2, cells := 0, slots := 0, locals := 43 } : Room) (WV (fun H H1 => DiscAt G b fl τ H1 ∧ FrS b (b + 29) H H1))) (F0 m 26 ls []) := by
    intro kin26
    induction kin26 using Nat.strongRecOn with
    | ind kin26 ihin26 =>
      intro k H u ls locs hk hu hC hF hkin26 hl hL
      have hP2 : DiscAt G b2 fl τ H := hP20.kept (fun q h1 h2 => hF.2 q (by omega))
      have hFl : FlAt G fb fl H := hFl0.kept (fun q h1 _ => hF.2 q (by omega))
      refine lv_iload_n E.1 E.2.1 dX1_copyAll_26 rfl (lv_at hl 0 rfl) ?_
      refine r_bipush E dX1_copyAll_27 (by decide) ?_
      refine r_icmp_ge (tgt := 61) E dX1_copyAll_29 (by decide) (by omega) (by omega) (fun c29 => ?_) (fun c29 => ?_)
      · exact J61 k H ls locs (by omega) hC hF (lv_sub hl [1, 2] rfl) hL
      · refine lv_iload_n E.1 E.2.1 dX1_copyAll_32 rfl (lv_at hl 0 rfl) ?_
        refine lv_aload_n E.1 E.2.1 dX1_copyAll_33 rfl (lv_at hl 1 rfl) ?_
        refine m_get E hC.1 fw_X1_29 rfl dX1_copyAll_34 ?_
        refine r_icmp_ge (tgt := 61) E dX1_copyAll_37 (by decide) (by omega) (by omega) (fun c37 => ?_) (fun c37 => ?_)
        · exact J61 k H ls locs (by omega) hC hF (lv_sub hl [1, 2] rfl) hL
        · subst hu
          obtain ⟨wd, td, hod, hrd⟩ := hC.2.2.2.2.2.1 k (by omega)
          obtain ⟨t_, ho_, hr_, ht_⟩ := hP2.live (n := k) (by omega) (by omega)
          have hT : TabF G fb t_ H := ht_.F hFl
          refine lv_aload_n E.1 E.2.1 dX1_copyAll_40 rfl (lv_at hl 1 rfl) ?_
          refine m_get E hC.1 fw_X1_11 rfl dX1_copyAll_41 ?_
          refine lv_iload_n E.1 E.2.1 dX1_copyAll_44 rfl (lv_at hl 0 rfl) ?_
          refine r_aald E hC.2.1 rfl (k) rfl (by omega) (by decide) dX1_copyAll_45 ?_
          refine lv_aload_n E.1 E.2.1 dX1_copyAll_46 rfl (lv_at hl 2 rfl) ?_
          refine m_get E hP2.1 fw_X1_11 rfl dX1_copyAll_47 ?_
          refine lv_iload_n E.1 E.2.1 dX1_copyAll_50 rfl (lv_at hl 0 rfl) ?_
          refine r_aald E hP2.2.1 rfl (k) rfl (by omega) (by decide) dX1_copyAll_51 ?_
          refine kVWV (As := [.ref (b2 + 5 + 2 * k)]) E cw_X1_39 (c_X3_copyAll G l (b + 5 + 2 * k) (b2 + 5 + 2 * k) fb wd (encR (se τ k)) td t_ (by omega) (by omega) (by omega)) hod ⟨_, _, rfl⟩ ⟨⟨hod, hrd⟩, ⟨ho_, hr_⟩, hT⟩ hL hl.1 rfl rfl (Nat.le_of_ble_eq_true rfl) ⟨Nat.le_of_ble_eq_true rfl, Nat.le_of_ble_eq_true rfl⟩ ⟨Nat.le_of_ble_eq_true rfl, Nat.le_of_ble_eq_true rfl⟩ dX1_copyAll_52 (fun H4 locs hL hw_ => ?_)
          obtain ⟨⟨ho4, hr4⟩, hq⟩ := hw_
          have hC := hC.pn (by omega) ⟨t_, ho4, hr4, ht_⟩ hq
          have hF := hF.trans (hq.wide (lo' := b) (hi' := b + 29) (by omega) (by omega))
          refine r_inc (lv' := [(2, .int (iI ((k : Int) + 1))), (0, .ref (b)), (1, .ref (b2))]) E dX1_copyAll_55 hl (k := 0) rfl (by decide) rfl (fun ls hl => ?_)
          refine lv_goto (tgt := 26) E.1 E.2.1 dX1_copyAll_58 (by decide) ?_
          refine ihin26 _ ?_ (k + 1) H4 ((k : Int) + 1) ls locs ?_ ?_ ?_ ?_ rfl (lv_sub hl [0, 1, 2] rfl) hL
          · omega
          · omega
          · omega
          · exact hC
          · exact hF
  refine LP26 _ 0 H3 0 ls locs ?_ ?_ ?_ ?_ rfl (lv_sub hl [0, 1, 2] rfl) hL
  · omega
  · rfl
  · exact hC
  · exact hF
end
section
def sig0 : St := mkS 0 0 4 3 (fun _ => false) (fun _ => 0) (fun _ _ => 0) (fun _ _ => none)

set_option maxHeartbeats 4000000 in
set_option maxRecDepth 100000 in
theorem c_X1_init (G : GG) (l : Launch) (b : Nat) (fl : Nat → Option Fil) (hga : G.2.2 ≤ b) : Ct G l yX1_init cX1_init 2 none ({ frames := 2, cells := 28, slots := 598, locals := 44 } : Room) [.ref (b)] (fun H => Ob G b 1 [.null, .null, .null, .null, .int 0, .int 0, .int 0] H ∧ H.size = b + 1) (WV (fun H H1 => DiscAt G b fl sig0 H1 ∧ H1.size = b + 29 ∧ ∀ q, q < b → H1[q]? = H[q]?)) := by
  refine Ct.of (by decide +kernel) (Nat.le_of_ble_eq_true rfl) ?_
  intro p e s m args below meth c ls E hnm hP hl
  obtain ⟨ho, hsz⟩ := hP
  have hfr : ∀ q, q < b → s.heap[q]? = s.heap[q]? := fun _ _ => rfl
  have hl : lv_has ls 2 [(0, .ref (b))] := hl
  have hL : Lk G [] := Lk.nil
  generalize ([] : List Loc) = locs at hL ⊢
  refine lv_aload_n E.1 E.2.1 dX1_init_0 rfl (lv_at hl 0 rfl) ?_
  refine m_objinit E oi_X1 hl.1 (Nat.le_of_ble_eq_true rfl) (Nat.le_of_ble_eq_true rfl) dX1_init_1 ?_
  refine lv_aload_n E.1 E.2.1 dX1_init_4 rfl (lv_at hl 0 rfl) ?_
  refine r_bipush E dX1_init_5 (by decide) ?_
  refine m_newq (t := 3) (N := 12) E cl_X1_9 E.2.2.2.2.2.2.2.2.1.1 rfl (by decide) (by decide) (by decide) (Nat.le_of_ble_eq_true rfl) (Nat.le_of_ble_eq_true rfl) dX1_init_7 (fun H1 hn2 hPu_ => ?_)
  rw [hsz] at hn2
  rw [hsz]
  have ho := ho.kept (hPu_.2 _ (by omega))
  have hfr : ∀ q, q < b → H1[q]? = s.heap[q]? := fun q hq => (hPu_.2 q (by omega)).trans (hfr q hq)
  have hsz : H1.size = b + 2 := by rw [hPu_.1]; omega
  refine m_putF E hnm ho fw_X1_11 fp_X1_0 rfl rfl (Nat.le_of_ble_eq_true rfl) hL (by omega) ⟨_, _, rfl⟩ dX1_init_10 (fun H3 locs hL hO_ hF_ => ?_)
  have hn2 := hn2.kept (hF_.2 _ (by omega))
  have hsz : H3.size = b + 2 := hF_.1.trans hsz
  have hfr : ∀ q, q < b → H3[q]? = s.heap[q]? := fun q hq => (hF_.2 q (by omega)).trans (hfr q hq)
  have ho : Ob G (b) 1 [.ref (b + 1), .null, .null, .null, .int (0), .int (0), .int (0)] H3 := hO_
  clear hO_
  refine lv_aload_n E.1 E.2.1 dX1_init_13 rfl (lv_at hl 0 rfl) ?_
  refine r_sipush E dX1_init_14 (by decide) ?_
  refine m_newi (atype := .boolean) (t := 1) (N := 240) E ac_boolean rfl rfl (fun _ _ => rfl) (by decide) (by decide) (by decide) (Nat.le_of_ble_eq_true rfl) (Nat.le_of_ble_eq_true rfl) dX1_init_17 (fun H4 hn5 hPu_ => ?_)
  rw [hsz] at hn5
  rw [hsz]
  have ho := ho.kept (hPu_.2 _ (by omega))
  have hn2 := hn2.kept (hPu_.2 _ (by omega))
  have hfr : ∀ q, q < b → H4[q]? = s.heap[q]? := fun q hq => (hPu_.2 q (by omega)).trans (hfr q hq)
  have hsz : H4.size = b + 3 := by rw [hPu_.1]; omega
  refine m_putF E hnm ho fw_X1_17 fp_X1_1 rfl rfl (Nat.le_of_ble_eq_true rfl) hL (by omega) ⟨_, _, rfl⟩ dX1_init_19 (fun H6 locs hL hO_ hF_ => ?_)
  have hn2 := hn2.kept (hF_.2 _ (by omega))
  have hn5 := hn5.kept (hF_.2 _ (by omega))
  have hsz : H6.size = b + 3 := hF_.1.trans hsz
  have hfr : ∀ q, q < b → H6[q]? = s.heap[q]? := fun q hq => (hF_.2 q (by omega)).trans (hfr q hq)
  have ho : Ob G (b) 1 [.ref (b + 1), .ref (b + 2), .null, .null, .int (0), .int (0), .int (0)] H6 := hO_
  clear hO_
  refine lv_aload_n E.1 E.2.1 dX1_init_22 rfl (lv_at hl 0 rfl) ?_
  refine r_bipush E dX1_init_23 (by decide) ?_
  refine m_newi (atype := .int) (t := 0) (N := 20) E ac_int rfl rfl (fun _ _ => rfl) (by decide) (by decide) (by decide) (Nat.le_of_ble_eq_true rfl) (Nat.le_of_ble_eq_true rfl) dX1_init_25 (fun H7 hn8 hPu_ => ?_)
  rw [hsz] at hn8
  rw [hsz]
  have ho := ho.kept (hPu_.2 _ (by omega))
  have hn2 := hn2.kept (hPu_.2 _ (by omega))
  have hn5 := hn5.kept (hPu_.2 _ (by omega))
  have hfr : ∀ q, q < b → H7[q]? = s.heap[q]? := fun q hq => (hPu_.2 q (by omega)).trans (hfr q hq)
  have hsz : H7.size = b + 4 := by rw [hPu_.1]; omega
  refine m_putF E hnm ho fw_X1_21 fp_X1_2 rfl rfl (Nat.le_of_ble_eq_true rfl) hL (by omega) ⟨_, _, rfl⟩ dX1_init_27 (fun H9 locs hL hO_ hF_ => ?_)
  have hn2 := hn2.kept (hF_.2 _ (by omega))
  have hn5 := hn5.kept (hF_.2 _ (by omega))
  have hn8 := hn8.kept (hF_.2 _ (by omega))
  have hsz : H9.size = b + 4 := hF_.1.trans hsz
  have hfr : ∀ q, q < b → H9[q]? = s.heap[q]? := fun q hq => (hF_.2 q (by omega)).trans (hfr q hq)
  have ho : Ob G (b) 1 [.ref (b + 1), .ref (b + 2), .ref (b + 3), .null, .int (0), .int (0), .int (0)] H9 := hO_
  clear hO_
  refine lv_aload_n E.1 E.2.1 dX1_init_30 rfl (lv_at hl 0 rfl) ?_
  refine r_const E dX1_init_31 ?_
  refine m_newi (atype := .int) (t := 0) (N := 2) E ac_int rfl rfl (fun _ _ => rfl) (by decide) (by decide) (by decide) (Nat.le_of_ble_eq_true rfl) (Nat.le_of_ble_eq_true rfl) dX1_init_32 (fun H10 hn11 hPu_ => ?_)
  rw [hsz] at hn11
  rw [hsz]
  have ho := ho.kept (hPu_.2 _ (by omega))
  have hn2 := hn2.kept (hPu_.2 _ (by omega))
  have hn5 := hn5.kept (hPu_.2 _ (by omega))
  have hn8 := hn8.kept (hPu_.2 _ (by omega))
  have hfr : ∀ q, q < b → H10[q]? = s.heap[q]? := fun q hq => (hPu_.2 q (by omega)).trans (hfr q hq)
  have hsz : H10.size = b + 5 := by rw [hPu_.1]; omega
  refine m_putF E hnm ho fw_X1_25 fp_X1_3 rfl rfl (Nat.le_of_ble_eq_true rfl) hL (by omega) ⟨_, _, rfl⟩ dX1_init_34 (fun H12 locs hL hO_ hF_ => ?_)
  have hn2 := hn2.kept (hF_.2 _ (by omega))
  have hn5 := hn5.kept (hF_.2 _ (by omega))
  have hn8 := hn8.kept (hF_.2 _ (by omega))
  have hn11 := hn11.kept (hF_.2 _ (by omega))
  have hsz : H12.size = b + 5 := hF_.1.trans hsz
  have hfr : ∀ q, q < b → H12[q]? = s.heap[q]? := fun q hq => (hF_.2 q (by omega)).trans (hfr q hq)
  have ho : Ob G (b) 1 [.ref (b + 1), .ref (b + 2), .ref (b + 3), .ref (b + 4), .int (0), .int (0), .int (0)] H12 := hO_
  clear hO_
  refine lv_aload_n E.1 E.2.1 dX1_init_37 rfl (lv_at hl 0 rfl) ?_
  refine m_get E ho fw_X1_25 rfl dX1_init_38 ?_
  refine r_const E dX1_init_41 ?_
  refine r_const E dX1_init_42 ?_
  refine r_iast E hn11 (0) rfl (by decide) (by decide) hL (by omega) dX1_init_43 (fun H13 locs hL hO_ hF_ => ?_)
  have ho := ho.kept (hF_.2 _ (by omega))
  have hn2 := hn2.kept (hF_.2 _ (by omega))
  have hn5 := hn5.kept (hF_.2 _ (by omega))
  have hn8 := hn8.kept (hF_.2 _ (by omega))
  have hsz : H13.size = b + 5 := hF_.1.trans hsz
  have hfr : ∀ q, q < b → H13[q]? = s.heap[q]? := fun q hq => (hF_.2 q (by omega)).trans (hfr q hq)
  have hn11 : Ia G (b + 4) 0 2 (upd (fun _ => 0) (0) (iI (4))) H13 := hO_
  clear hO_
  refine lv_aload_n E.1 E.2.1 dX1_init_44 rfl (lv_at hl 0 rfl) ?_
  refine m_get E ho fw_X1_25 rfl dX1_init_45 ?_
  refine r_const E dX1_init_48 ?_
  refine r_const E dX1_init_49 ?_
  refine r_iast E hn11 (1) rfl (by decide) (by decide) hL (by omega) dX1_init_50 (fun H14 locs hL hO_ hF_ => ?_)
  have ho := ho.kept (hF_.2 _ (by omega))
  have hn2 := hn2.kept (hF_.2 _ (by omega))
  have hn5 := hn5.kept (hF_.2 _ (by omega))
  have hn8 := hn8.kept (hF_.2 _ (by omega))
  have hsz : H14.size = b + 5 := hF_.1.trans hsz
  have hfr : ∀ q, q < b → H14[q]? = s.heap[q]? := fun q hq => (hF_.2 q (by omega)).trans (hfr q hq)
  have hn11 : Ia G (b + 4) 0 2 (upd (upd (fun _ => 0) (0) (iI (4))) (1) (iI (3))) H14 := hO_
  clear hO_
  refine r_const E dX1_init_51 ?_
  refine lv_istore_n (lv' := [(1, .int (iI (0))), (0, .ref (b))]) E.1 E.2.1 dX1_init_52 rfl hl (by decide) rfl (fun ls hl => ?_)
  have LP53 : ∀ (kin53 : Nat) (k : Nat) (H : Heap) (u : Int) (ls : Array Slot) (locs : List Loc) (hk : k ≤ 12) (hu : u = (k : Int)) (hb0 : Ob G b 1 [.ref (b + 1), .ref (b + 2), .ref (b + 3), .ref (b + 4), .int 0, .int 0, .int 0] H) (hb1 : Ra G (b + 1) 3 12 (fun j => if j < k then some (b + 5 + 2 * j) else none) H) (hb2 : Ia G (b + 2) 1 240 (fun _ => 0) H) (hb3 : Ia G (b + 3) 0 20 (fun _ => 0) H) (hb4 : Ia G (b + 4) 0 2 (upd (upd (fun _ => 0) (0) (iI (4))) (1) (iI (3))) H) (hS : ∀ n, n < k → SesR G (b + 5 + 2 * n) (fun _ => 0) (fun _ => none) H) (hsz : H.size = b + 5 + 2 * k) (hfr : ∀ q, q < b → H[q]? = s.heap[q]?) (hkin53 : 12 - k = kin53) (hl : lv_has ls 2 [(1, .int (iI (u))), (0, .ref (b))]) (hL : Lk G locs), W p l e ({ frames := 2, cells := 28, slots := 598, locals := 44 } : Room) s m args below meth c H locs (4 + 2 * k) (274 + 27 * k) (QQ G below args s ({ frames := 2, cells := 28, slots := 598, locals := 44 } : Room) (WV (fun H H1 => DiscAt G b fl sig0 H1 ∧ H1.size = b + 29 ∧ ∀ q, q < b → H1[q]? = H[q]?))) (F0 m 53 ls []) := by
    intro kin53
    induction kin53 using Nat.strongRecOn with
    | ind kin53 ihin53 =>
      intro k H u ls locs hk hu hb0 hb1 hb2 hb3 hb4 hS hsz hfr hkin53 hl hL
      refine lv_iload_n E.1 E.2.1 dX1_init_53 rfl (lv_at hl 0 rfl) ?_
      refine r_bipush E dX1_init_54 (by decide) ?_
      refine r_icmp_ge (tgt := 78) E dX1_init_56 (by decide) (by omega) (by omega) (fun c56 => ?_) (fun c56 => ?_)
      · have hk12 : k = 12 := by omega
        subst hk12
        refine e_vret (rm := ({ frames := 2, cells := 28, slots := 598, locals := 44 } : Room)) E hL dX1_init_78 ⟨rfl, ?_⟩
        refine ⟨?_, by omega, hfr⟩
        refine ⟨hb0, hb1.to (fun j hj => by simp [hj]), hb2.to (fun j _ => rfl), hb3.to (fun j _ => rfl), hb4.to (fun j hj => ?_), fun n hn => ⟨fun _ => 0, fun _ => none, (hS n hn).1, (hS n hn).2⟩, fun n hn _ => absurd hn (Nat.not_lt_zero n)⟩
        rcases (show j = 0 ∨ j = 1 by omega) with rfl | rfl <;> rfl
      · subst hu
        refine lv_aload_n E.1 E.2.1 dX1_init_59 rfl (lv_at hl 1 rfl) ?_
        refine m_get E hb0 fw_X1_11 rfl dX1_init_60 ?_
        refine lv_iload_n E.1 E.2.1 dX1_init_63 rfl (lv_at hl 0 rfl) ?_
        refine m_new E nw_X1_9 (by show 4 + 2 * k + 1 ≤ 28; omega) (by show 274 + 27 * k + 7 ≤ 598; omega) dX1_init_64 (fun H15 hn16 hPu_ => ?_)
        rw [hsz] at hn16
        rw [hsz]
        have hb0 := hb0.kept (hPu_.2 _ (by omega))
        have hb1 := hb1.kept (hPu_.2 _ (by omega))
        have hb2 := hb2.kept (hPu_.2 _ (by omega))
        have hb3 := hb3.kept (hPu_.2 _ (by omega))
        have hb4 := hb4.kept (hPu_.2 _ (by omega))
        have hfr : ∀ q, q < b → H15[q]? = s.heap[q]? := fun q hq => (hPu_.2 q (by omega)).trans (hfr q hq)
        have hS : ∀ n, n < k → SesR G (b + 5 + 2 * n) (fun _ => 0) (fun _ => none) H15 := fun n hn => (hS n hn).kept (hPu_.2 _ (by omega)) (hPu_.2 _ (by omega))
        have hsz : H15.size = b + 5 + 2 * k + 1 := by rw [hPu_.1]; omega
        refine lv_dup E.1 E.2.1 dX1_init_67 rfl ?_
        refine kINWV (As := []) E cw_X1_28 (c_X3_init G l (b + 5 + 2 * k) (by omega)) ⟨hn16, by omega⟩ hL hl.1 rfl rfl (Nat.le_of_ble_eq_true rfl) ⟨Nat.le_of_ble_eq_true rfl, Nat.le_of_ble_eq_true rfl⟩ ⟨by show 4 + 2 * k + 1 + 1 ≤ 28; omega, by show 274 + 27 * k + 7 + 20 ≤ 598; omega⟩ dX1_init_68 (fun H17 locs hL hw_ => ?_)
        obtain ⟨hse, hz, hq⟩ := hw_
        have hb0 := hb0.kept (hq _ (by omega))
        have hb1 := hb1.kept (hq _ (by omega))
        have hb2 := hb2.kept (hq _ (by omega))
        have hb3 := hb3.kept (hq _ (by omega))
        have hb4 := hb4.kept (hq _ (by omega))
        have hS : ∀ n, n < k → SesR G (b + 5 + 2 * n) (fun _ => 0) (fun _ => none) H17 := fun n hn => (hS n hn).kept (hq _ (by omega)) (hq _ (by omega))
        have hfr : ∀ q, q < b → H17[q]? = s.heap[q]? := fun q h9 => (hq q (by omega)).trans (hfr q h9)
        have hsz : H17.size = b + 5 + 2 * (k + 1) := by omega
        refine W.cs (cells' := 4 + 2 * (k + 1)) (slots' := 274 + 27 * (k + 1)) (by show 4 + 2 * k + 1 + 1 = _; omega) (by show 274 + 27 * k + 7 + 20 = _; omega) ?_
        refine r_aastQ (v := some (b + 5 + 2 * k)) E hb1 rfl (fun _ h => by cases h; exact ⟨_, hse.1⟩) (show vwCl[3]? = some _ from rfl) (k) rfl (by omega) (by decide) hL (by omega) dX1_init_71 (fun H18 locs hL hO_ hF_ => ?_)
        have hb0 := hb0.kept (hF_.2 _ (by omega))
        have hb2 := hb2.kept (hF_.2 _ (by omega))
        have hb3 := hb3.kept (hF_.2 _ (by omega))
        have hb4 := hb4.kept (hF_.2 _ (by omega))
        have hsz : H18.size = b + 5 + 2 * (k + 1) := hF_.1.trans hsz
        have hfr : ∀ q, q < b → H18[q]? = s.heap[q]? := fun q hq => (hF_.2 q (by omega)).trans (hfr q hq)
        have hS : ∀ n, n < k → SesR G (b + 5 + 2 * n) (fun _ => 0) (fun _ => none) H18 := fun n hn => (hS n hn).kept (hF_.2 _ (by omega)) (hF_.2 _ (by omega))
        have hse := hse.kept (hF_.2 _ (by omega)) (hF_.2 _ (by omega))
        have hb1 : Ra G (b + 1) 3 12 (va_up (fun j => if j < k then some (b + 5 + 2 * j) else none) (k) (some (b + 5 + 2 * k))) H18 := hO_
        clear hO_
        refine r_inc (lv' := [(1, .int (iI ((k : Int) + 1))), (0, .ref (b))]) E dX1_init_72 hl (k := 0) rfl (by decide) rfl (fun ls hl => ?_)
        refine lv_goto (tgt := 53) E.1 E.2.1 dX1_init_75 (by decide) ?_
        refine ihin53 _ ?_ (k + 1) H18 ((k : Int) + 1) ls locs ?_ ?_ ?_ ?_ ?_ ?_ ?_ ?_ ?_ ?_ rfl (lv_sub hl [0, 1] rfl) hL
        · omega
        · omega
        · omega
        · exact hb0
        · refine hb1.to (fun j hj => ?_)
          by_cases h1 : j = k
          · subst h1; simp [va_up]
          · have h2 : j < k + 1 ↔ j < k := by omega
            simp [va_up, h1, h2]
        · exact hb2
        · exact hb3
        · exact hb4
        · intro n hn
          by_cases h1 : n = k
          · subst h1; exact hse
          · exact hS n (by omega)
        · omega
        · exact hfr
  refine LP53 _ 0 H14 0 ls locs ?_ ?_ ?_ ?_ ?_ ?_ ?_ ?_ ?_ ?_ rfl (lv_sub hl [0, 1] rfl) hL
  · omega
  · rfl
  · exact ho
  · exact hn2.to (fun j hj => by simp)
  · exact hn5
  · exact hn8
  · exact hn11
  · exact fun n hn => absurd hn (Nat.not_lt_zero n)
  · omega
  · exact hfr
end
