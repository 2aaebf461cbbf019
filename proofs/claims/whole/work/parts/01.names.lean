-- ===== PART A: goes FIRST, ahead of the names: the tables' words, and 'selects' of the private methods out of them =====
/-- a private method of a class that the tables say can be made, by its rows of tables_1 -/
def lw_okq (q : MethodName × Nat) : Prop := (q.1.cls ≠ "java/lang/invoke/MethodHandle" ∧ q.1.cls ≠ "java/lang/invoke/VarHandle") ∧ Cond.instantiable q.1.cls q.2 ∈ tables_1 ∧ Cond.privateMethod q.1 ∈ tables_1 ∧ Cond.instanceMethod q.1 ∈ tables_1
theorem lw_p0 : lw_okq (⟨"PartitionPress", "putOn", "(I)I"⟩, 11) := ⟨⟨by decide +kernel, by decide +kernel⟩, List.mem_of_getElem? (i := 16) (by decide +kernel), List.mem_of_getElem? (i := 328) (by decide +kernel), List.mem_of_getElem? (i := 329) (by decide +kernel)⟩
theorem lw_p1 : lw_okq (⟨"PartitionPress", "firstClash", "(LPartitionPress$Law;LPartitionPress$Sum;)I"⟩, 11) := ⟨⟨by decide +kernel, by decide +kernel⟩, List.mem_of_getElem? (i := 16) (by decide +kernel), List.mem_of_getElem? (i := 446) (by decide +kernel), List.mem_of_getElem? (i := 447) (by decide +kernel)⟩
theorem lw_p2 : lw_okq (⟨"PartitionPress$Law", "firstOfWrongParts", "(LPartitionPress$Sum;)I"⟩, 12) := ⟨⟨by decide +kernel, by decide +kernel⟩, List.mem_of_getElem? (i := 126) (by decide +kernel), List.mem_of_getElem? (i := 458) (by decide +kernel), List.mem_of_getElem? (i := 459) (by decide +kernel)⟩
theorem lw_p3 : lw_okq (⟨"PartitionPress$Law", "firstOfWrongGaps", "(LPartitionPress$Sum;)I"⟩, 12) := ⟨⟨by decide +kernel, by decide +kernel⟩, List.mem_of_getElem? (i := 126) (by decide +kernel), List.mem_of_getElem? (i := 467) (by decide +kernel), List.mem_of_getElem? (i := 468) (by decide +kernel)⟩
theorem lw_p4 : lw_okq (⟨"PartitionPress$Law", "firstOfMany", "(LPartitionPress$Sum;)I"⟩, 12) := ⟨⟨by decide +kernel, by decide +kernel⟩, List.mem_of_getElem? (i := 126) (by decide +kernel), List.mem_of_getElem? (i := 475) (by decide +kernel), List.mem_of_getElem? (i := 476) (by decide +kernel)⟩
theorem lw_p5 : lw_okq (⟨"PartitionPress$Counter", "learn", "(LPartitionPress$Law;I)V"⟩, 8) := ⟨⟨by decide +kernel, by decide +kernel⟩, List.mem_of_getElem? (i := 77) (by decide +kernel), List.mem_of_getElem? (i := 500) (by decide +kernel), List.mem_of_getElem? (i := 501) (by decide +kernel)⟩
theorem lw_p6 : lw_okq (⟨"PartitionPress$Box", "fill", "(I)V"⟩, 2) := ⟨⟨by decide +kernel, by decide +kernel⟩, List.mem_of_getElem? (i := 100) (by decide +kernel), List.mem_of_getElem? (i := 508) (by decide +kernel), List.mem_of_getElem? (i := 509) (by decide +kernel)⟩
theorem lw_p7 : lw_okq (⟨"PartitionPress$Counter", "learnOwn", "(LPartitionPress$Law;)V"⟩, 8) := ⟨⟨by decide +kernel, by decide +kernel⟩, List.mem_of_getElem? (i := 77) (by decide +kernel), List.mem_of_getElem? (i := 518) (by decide +kernel), List.mem_of_getElem? (i := 519) (by decide +kernel)⟩
theorem lw_p8 : lw_okq (⟨"PartitionPress$Product", "choose", "(I)V"⟩, 1) := ⟨⟨by decide +kernel, by decide +kernel⟩, List.mem_of_getElem? (i := 116) (by decide +kernel), List.mem_of_getElem? (i := 536) (by decide +kernel), List.mem_of_getElem? (i := 537) (by decide +kernel)⟩
theorem lw_p9 : lw_okq (⟨"PartitionPress$Product", "timesPower", "([JII)V"⟩, 1) := ⟨⟨by decide +kernel, by decide +kernel⟩, List.mem_of_getElem? (i := 116) (by decide +kernel), List.mem_of_getElem? (i := 540) (by decide +kernel), List.mem_of_getElem? (i := 541) (by decide +kernel)⟩
theorem lw_p10 : lw_okq (⟨"PartitionPress$Product", "broughtTo", "([JIII)J"⟩, 1) := ⟨⟨by decide +kernel, by decide +kernel⟩, List.mem_of_getElem? (i := 116) (by decide +kernel), List.mem_of_getElem? (i := 544) (by decide +kernel), List.mem_of_getElem? (i := 545) (by decide +kernel)⟩
theorem lw_p11 : lw_okq (⟨"PartitionPress$Product", "overPower", "([JII)V"⟩, 1) := ⟨⟨by decide +kernel, by decide +kernel⟩, List.mem_of_getElem? (i := 116) (by decide +kernel), List.mem_of_getElem? (i := 548) (by decide +kernel), List.mem_of_getElem? (i := 549) (by decide +kernel)⟩
theorem lw_p12 : lw_okq (⟨"PartitionPress$Counter", "learnCores", "(LPartitionPress$Law;)V"⟩, 8) := ⟨⟨by decide +kernel, by decide +kernel⟩, List.mem_of_getElem? (i := 77) (by decide +kernel), List.mem_of_getElem? (i := 553) (by decide +kernel), List.mem_of_getElem? (i := 554) (by decide +kernel)⟩
theorem lw_p13 : lw_okq (⟨"PartitionPress$Table", "fillRow", "(LPartitionPress$Law;I)V"⟩, 3) := ⟨⟨by decide +kernel, by decide +kernel⟩, List.mem_of_getElem? (i := 83) (by decide +kernel), List.mem_of_getElem? (i := 561) (by decide +kernel), List.mem_of_getElem? (i := 562) (by decide +kernel)⟩
theorem lw_p14 : lw_okq (⟨"PartitionPress$Table", "beginningWith", "(LPartitionPress$Law;II)J"⟩, 3) := ⟨⟨by decide +kernel, by decide +kernel⟩, List.mem_of_getElem? (i := 83) (by decide +kernel), List.mem_of_getElem? (i := 565) (by decide +kernel), List.mem_of_getElem? (i := 566) (by decide +kernel)⟩
theorem lw_p15 : lw_okq (⟨"PartitionPress$Counter", "start", "(LPartitionPress$Law;I)V"⟩, 8) := ⟨⟨by decide +kernel, by decide +kernel⟩, List.mem_of_getElem? (i := 77) (by decide +kernel), List.mem_of_getElem? (i := 589) (by decide +kernel), List.mem_of_getElem? (i := 590) (by decide +kernel)⟩
def lw_privs_1 : List (MethodName × Nat) := [(⟨"PartitionPress", "putOn", "(I)I"⟩, 11), (⟨"PartitionPress", "firstClash", "(LPartitionPress$Law;LPartitionPress$Sum;)I"⟩, 11), (⟨"PartitionPress$Law", "firstOfWrongParts", "(LPartitionPress$Sum;)I"⟩, 12), (⟨"PartitionPress$Law", "firstOfWrongGaps", "(LPartitionPress$Sum;)I"⟩, 12), (⟨"PartitionPress$Law", "firstOfMany", "(LPartitionPress$Sum;)I"⟩, 12), (⟨"PartitionPress$Counter", "learn", "(LPartitionPress$Law;I)V"⟩, 8), (⟨"PartitionPress$Box", "fill", "(I)V"⟩, 2), (⟨"PartitionPress$Counter", "learnOwn", "(LPartitionPress$Law;)V"⟩, 8), (⟨"PartitionPress$Product", "choose", "(I)V"⟩, 1), (⟨"PartitionPress$Product", "timesPower", "([JII)V"⟩, 1), (⟨"PartitionPress$Product", "broughtTo", "([JIII)J"⟩, 1), (⟨"PartitionPress$Product", "overPower", "([JII)V"⟩, 1), (⟨"PartitionPress$Counter", "learnCores", "(LPartitionPress$Law;)V"⟩, 8), (⟨"PartitionPress$Table", "fillRow", "(LPartitionPress$Law;I)V"⟩, 3), (⟨"PartitionPress$Table", "beginningWith", "(LPartitionPress$Law;II)J"⟩, 3), (⟨"PartitionPress$Counter", "start", "(LPartitionPress$Law;I)V"⟩, 8)]
theorem lw_r1 : ∀ q ∈ lw_privs_1, lw_okq q := List.forall_mem_cons.mpr ⟨lw_p0, List.forall_mem_cons.mpr ⟨lw_p1, List.forall_mem_cons.mpr ⟨lw_p2, List.forall_mem_cons.mpr ⟨lw_p3, List.forall_mem_cons.mpr ⟨lw_p4, List.forall_mem_cons.mpr ⟨lw_p5, List.forall_mem_cons.mpr ⟨lw_p6, List.forall_mem_cons.mpr ⟨lw_p7, List.forall_mem_cons.mpr ⟨lw_p8, List.forall_mem_cons.mpr ⟨lw_p9, List.forall_mem_cons.mpr ⟨lw_p10, List.forall_mem_cons.mpr ⟨lw_p11, List.forall_mem_cons.mpr ⟨lw_p12, List.forall_mem_cons.mpr ⟨lw_p13, List.forall_mem_cons.mpr ⟨lw_p14, List.forall_mem_cons.mpr ⟨lw_p15, fun _ h => absurd h List.not_mem_nil⟩⟩⟩⟩⟩⟩⟩⟩⟩⟩⟩⟩⟩⟩⟩⟩
theorem lw_p16 : lw_okq (⟨"PartitionPress$Counter", "greatest", "()I"⟩, 8) := ⟨⟨by decide +kernel, by decide +kernel⟩, List.mem_of_getElem? (i := 77) (by decide +kernel), List.mem_of_getElem? (i := 593) (by decide +kernel), List.mem_of_getElem? (i := 594) (by decide +kernel)⟩
theorem lw_p17 : lw_okq (⟨"PartitionPress$Counter", "waysOnWith", "(I)J"⟩, 8) := ⟨⟨by decide +kernel, by decide +kernel⟩, List.mem_of_getElem? (i := 77) (by decide +kernel), List.mem_of_getElem? (i := 600) (by decide +kernel), List.mem_of_getElem? (i := 601) (by decide +kernel)⟩
theorem lw_p18 : lw_okq (⟨"PartitionPress$Counter", "waysOnWithLike", "(I)J"⟩, 8) := ⟨⟨by decide +kernel, by decide +kernel⟩, List.mem_of_getElem? (i := 77) (by decide +kernel), List.mem_of_getElem? (i := 604) (by decide +kernel), List.mem_of_getElem? (i := 605) (by decide +kernel)⟩
theorem lw_p19 : lw_okq (⟨"PartitionPress$Counter", "step", "(I)V"⟩, 8) := ⟨⟨by decide +kernel, by decide +kernel⟩, List.mem_of_getElem? (i := 77) (by decide +kernel), List.mem_of_getElem? (i := 608) (by decide +kernel), List.mem_of_getElem? (i := 609) (by decide +kernel)⟩
theorem lw_p20 : lw_okq (⟨"PartitionPress", "travel", "(IIZII)I"⟩, 11) := ⟨⟨by decide +kernel, by decide +kernel⟩, List.mem_of_getElem? (i := 16) (by decide +kernel), List.mem_of_getElem? (i := 626) (by decide +kernel), List.mem_of_getElem? (i := 627) (by decide +kernel)⟩
theorem lw_p21 : lw_okq (⟨"PartitionPress$Leads", "isOwn", "(LPartitionPress$Sum;)Z"⟩, 4) := ⟨⟨by decide +kernel, by decide +kernel⟩, List.mem_of_getElem? (i := 206) (by decide +kernel), List.mem_of_getElem? (i := 655) (by decide +kernel), List.mem_of_getElem? (i := 656) (by decide +kernel)⟩
theorem lw_p22 : lw_okq (⟨"PartitionPress$Leads", "regroup", "(IZLPartitionPress$Sum;LPartitionPress$Sum;)V"⟩, 4) := ⟨⟨by decide +kernel, by decide +kernel⟩, List.mem_of_getElem? (i := 206) (by decide +kernel), List.mem_of_getElem? (i := 665) (by decide +kernel), List.mem_of_getElem? (i := 666) (by decide +kernel)⟩
theorem lw_p23 : lw_okq (⟨"PartitionPress$Leads", "cutMultiples", "(I)V"⟩, 4) := ⟨⟨by decide +kernel, by decide +kernel⟩, List.mem_of_getElem? (i := 206) (by decide +kernel), List.mem_of_getElem? (i := 669) (by decide +kernel), List.mem_of_getElem? (i := 670) (by decide +kernel)⟩
theorem lw_p24 : lw_okq (⟨"PartitionPress$Leads", "putLikeTogether", "(I)V"⟩, 4) := ⟨⟨by decide +kernel, by decide +kernel⟩, List.mem_of_getElem? (i := 206) (by decide +kernel), List.mem_of_getElem? (i := 673) (by decide +kernel), List.mem_of_getElem? (i := 674) (by decide +kernel)⟩
theorem lw_p25 : lw_okq (⟨"PartitionPress$Leads", "hooksToOwn", "(LPartitionPress$Sum;LPartitionPress$Sum;)V"⟩, 4) := ⟨⟨by decide +kernel, by decide +kernel⟩, List.mem_of_getElem? (i := 206) (by decide +kernel), List.mem_of_getElem? (i := 679) (by decide +kernel), List.mem_of_getElem? (i := 680) (by decide +kernel)⟩
theorem lw_p26 : lw_okq (⟨"PartitionPress$Leads", "draw", "(ILPartitionPress$Sum;)V"⟩, 4) := ⟨⟨by decide +kernel, by decide +kernel⟩, List.mem_of_getElem? (i := 206) (by decide +kernel), List.mem_of_getElem? (i := 683) (by decide +kernel), List.mem_of_getElem? (i := 684) (by decide +kernel)⟩
theorem lw_p27 : lw_okq (⟨"PartitionPress$Leads", "columnsDownTo", "(II)I"⟩, 4) := ⟨⟨by decide +kernel, by decide +kernel⟩, List.mem_of_getElem? (i := 206) (by decide +kernel), List.mem_of_getElem? (i := 687) (by decide +kernel), List.mem_of_getElem? (i := 688) (by decide +kernel)⟩
theorem lw_p28 : lw_okq (⟨"PartitionPress$Leads", "unbend", "(LPartitionPress$Sum;LPartitionPress$Sum;)V"⟩, 4) := ⟨⟨by decide +kernel, by decide +kernel⟩, List.mem_of_getElem? (i := 206) (by decide +kernel), List.mem_of_getElem? (i := 701) (by decide +kernel), List.mem_of_getElem? (i := 702) (by decide +kernel)⟩
theorem lw_p29 : lw_okq (⟨"PartitionPress$Abacus", "setBead", "(I)V"⟩, 2) := ⟨⟨by decide +kernel, by decide +kernel⟩, List.mem_of_getElem? (i := 227) (by decide +kernel), List.mem_of_getElem? (i := 731) (by decide +kernel), List.mem_of_getElem? (i := 732) (by decide +kernel)⟩
theorem lw_p30 : lw_okq (⟨"PartitionPress$Abacus", "beadsOn", "(I)I"⟩, 2) := ⟨⟨by decide +kernel, by decide +kernel⟩, List.mem_of_getElem? (i := 227) (by decide +kernel), List.mem_of_getElem? (i := 739) (by decide +kernel), List.mem_of_getElem? (i := 740) (by decide +kernel)⟩
theorem lw_p31 : lw_okq (⟨"PartitionPress$Abacus", "emptyRunner", "(I)V"⟩, 2) := ⟨⟨by decide +kernel, by decide +kernel⟩, List.mem_of_getElem? (i := 227) (by decide +kernel), List.mem_of_getElem? (i := 743) (by decide +kernel), List.mem_of_getElem? (i := 744) (by decide +kernel)⟩
def lw_privs_2 : List (MethodName × Nat) := [(⟨"PartitionPress$Counter", "greatest", "()I"⟩, 8), (⟨"PartitionPress$Counter", "waysOnWith", "(I)J"⟩, 8), (⟨"PartitionPress$Counter", "waysOnWithLike", "(I)J"⟩, 8), (⟨"PartitionPress$Counter", "step", "(I)V"⟩, 8), (⟨"PartitionPress", "travel", "(IIZII)I"⟩, 11), (⟨"PartitionPress$Leads", "isOwn", "(LPartitionPress$Sum;)Z"⟩, 4), (⟨"PartitionPress$Leads", "regroup", "(IZLPartitionPress$Sum;LPartitionPress$Sum;)V"⟩, 4), (⟨"PartitionPress$Leads", "cutMultiples", "(I)V"⟩, 4), (⟨"PartitionPress$Leads", "putLikeTogether", "(I)V"⟩, 4), (⟨"PartitionPress$Leads", "hooksToOwn", "(LPartitionPress$Sum;LPartitionPress$Sum;)V"⟩, 4), (⟨"PartitionPress$Leads", "draw", "(ILPartitionPress$Sum;)V"⟩, 4), (⟨"PartitionPress$Leads", "columnsDownTo", "(II)I"⟩, 4), (⟨"PartitionPress$Leads", "unbend", "(LPartitionPress$Sum;LPartitionPress$Sum;)V"⟩, 4), (⟨"PartitionPress$Abacus", "setBead", "(I)V"⟩, 2), (⟨"PartitionPress$Abacus", "beadsOn", "(I)I"⟩, 2), (⟨"PartitionPress$Abacus", "emptyRunner", "(I)V"⟩, 2)]
theorem lw_r2 : ∀ q ∈ lw_privs_2, lw_okq q := List.forall_mem_cons.mpr ⟨lw_p16, List.forall_mem_cons.mpr ⟨lw_p17, List.forall_mem_cons.mpr ⟨lw_p18, List.forall_mem_cons.mpr ⟨lw_p19, List.forall_mem_cons.mpr ⟨lw_p20, List.forall_mem_cons.mpr ⟨lw_p21, List.forall_mem_cons.mpr ⟨lw_p22, List.forall_mem_cons.mpr ⟨lw_p23, List.forall_mem_cons.mpr ⟨lw_p24, List.forall_mem_cons.mpr ⟨lw_p25, List.forall_mem_cons.mpr ⟨lw_p26, List.forall_mem_cons.mpr ⟨lw_p27, List.forall_mem_cons.mpr ⟨lw_p28, List.forall_mem_cons.mpr ⟨lw_p29, List.forall_mem_cons.mpr ⟨lw_p30, List.forall_mem_cons.mpr ⟨lw_p31, fun _ h => absurd h List.not_mem_nil⟩⟩⟩⟩⟩⟩⟩⟩⟩⟩⟩⟩⟩⟩⟩⟩
theorem lw_p32 : lw_okq (⟨"PartitionPress$Abacus", "readEvery", "(IILPartitionPress$Sum;)V"⟩, 2) := ⟨⟨by decide +kernel, by decide +kernel⟩, List.mem_of_getElem? (i := 227) (by decide +kernel), List.mem_of_getElem? (i := 751) (by decide +kernel), List.mem_of_getElem? (i := 752) (by decide +kernel)⟩
theorem lw_p33 : lw_okq (⟨"PartitionPress$Filler", "breakToPrimes", "(I)V"⟩, 3) := ⟨⟨by decide +kernel, by decide +kernel⟩, List.mem_of_getElem? (i := 241) (by decide +kernel), List.mem_of_getElem? (i := 793) (by decide +kernel), List.mem_of_getElem? (i := 794) (by decide +kernel)⟩
theorem lw_p34 : lw_okq (⟨"PartitionPress$Filler", "takeGreatest", "()I"⟩, 3) := ⟨⟨by decide +kernel, by decide +kernel⟩, List.mem_of_getElem? (i := 241) (by decide +kernel), List.mem_of_getElem? (i := 809) (by decide +kernel), List.mem_of_getElem? (i := 810) (by decide +kernel)⟩
theorem lw_p35 : lw_okq (⟨"PartitionPress$Box", "withoutOnes", "(II)J"⟩, 2) := ⟨⟨by decide +kernel, by decide +kernel⟩, List.mem_of_getElem? (i := 100) (by decide +kernel), List.mem_of_getElem? (i := 842) (by decide +kernel), List.mem_of_getElem? (i := 843) (by decide +kernel)⟩
theorem lw_p36 : lw_okq (⟨"PartitionPress$Box", "withOnes", "(III)J"⟩, 2) := ⟨⟨by decide +kernel, by decide +kernel⟩, List.mem_of_getElem? (i := 100) (by decide +kernel), List.mem_of_getElem? (i := 846) (by decide +kernel), List.mem_of_getElem? (i := 847) (by decide +kernel)⟩
theorem lw_p37 : lw_okq (⟨"PartitionPressModel", "isSheet", "(I)Z"⟩, 27) := ⟨⟨by decide +kernel, by decide +kernel⟩, List.mem_of_getElem? (i := 903) (by decide +kernel), List.mem_of_getElem? (i := 1001) (by decide +kernel), List.mem_of_getElem? (i := 1002) (by decide +kernel)⟩
theorem lw_p38 : lw_okq (⟨"PartitionPressModel", "at", "(II)I"⟩, 27) := ⟨⟨by decide +kernel, by decide +kernel⟩, List.mem_of_getElem? (i := 903) (by decide +kernel), List.mem_of_getElem? (i := 1009) (by decide +kernel), List.mem_of_getElem? (i := 1010) (by decide +kernel)⟩
theorem lw_p39 : lw_okq (⟨"PartitionPressModel", "size", "(I)I"⟩, 27) := ⟨⟨by decide +kernel, by decide +kernel⟩, List.mem_of_getElem? (i := 903) (by decide +kernel), List.mem_of_getElem? (i := 1013) (by decide +kernel), List.mem_of_getElem? (i := 1014) (by decide +kernel)⟩
theorem lw_p40 : lw_okq (⟨"PartitionPressModel", "note", "(I)V"⟩, 27) := ⟨⟨by decide +kernel, by decide +kernel⟩, List.mem_of_getElem? (i := 903) (by decide +kernel), List.mem_of_getElem? (i := 1017) (by decide +kernel), List.mem_of_getElem? (i := 1018) (by decide +kernel)⟩
theorem lw_p41 : lw_okq (⟨"PartitionPressModel", "push", "(II)V"⟩, 27) := ⟨⟨by decide +kernel, by decide +kernel⟩, List.mem_of_getElem? (i := 903) (by decide +kernel), List.mem_of_getElem? (i := 1021) (by decide +kernel), List.mem_of_getElem? (i := 1022) (by decide +kernel)⟩
theorem lw_p42 : lw_okq (⟨"PartitionPressModel", "empty", "(I)V"⟩, 27) := ⟨⟨by decide +kernel, by decide +kernel⟩, List.mem_of_getElem? (i := 903) (by decide +kernel), List.mem_of_getElem? (i := 1029) (by decide +kernel), List.mem_of_getElem? (i := 1030) (by decide +kernel)⟩
theorem lw_p43 : lw_okq (⟨"PartitionPressModel", "give", "(II)V"⟩, 27) := ⟨⟨by decide +kernel, by decide +kernel⟩, List.mem_of_getElem? (i := 903) (by decide +kernel), List.mem_of_getElem? (i := 1037) (by decide +kernel), List.mem_of_getElem? (i := 1038) (by decide +kernel)⟩
theorem lw_p44 : lw_okq (⟨"PartitionPressModel", "rankOf", "(I)I"⟩, 27) := ⟨⟨by decide +kernel, by decide +kernel⟩, List.mem_of_getElem? (i := 903) (by decide +kernel), List.mem_of_getElem? (i := 1045) (by decide +kernel), List.mem_of_getElem? (i := 1046) (by decide +kernel)⟩
theorem lw_p45 : lw_okq (⟨"PartitionPressModel", "crankOf", "(I)I"⟩, 27) := ⟨⟨by decide +kernel, by decide +kernel⟩, List.mem_of_getElem? (i := 903) (by decide +kernel), List.mem_of_getElem? (i := 1049) (by decide +kernel), List.mem_of_getElem? (i := 1050) (by decide +kernel)⟩
theorem lw_p46 : lw_okq (⟨"PartitionPressModel", "hookOf", "(III)I"⟩, 27) := ⟨⟨by decide +kernel, by decide +kernel⟩, List.mem_of_getElem? (i := 903) (by decide +kernel), List.mem_of_getElem? (i := 1058) (by decide +kernel), List.mem_of_getElem? (i := 1059) (by decide +kernel)⟩
theorem lw_p47 : lw_okq (⟨"PartitionPressModel", "column", "(II)I"⟩, 27) := ⟨⟨by decide +kernel, by decide +kernel⟩, List.mem_of_getElem? (i := 903) (by decide +kernel), List.mem_of_getElem? (i := 1062) (by decide +kernel), List.mem_of_getElem? (i := 1063) (by decide +kernel)⟩
def lw_privs_3 : List (MethodName × Nat) := [(⟨"PartitionPress$Abacus", "readEvery", "(IILPartitionPress$Sum;)V"⟩, 2), (⟨"PartitionPress$Filler", "breakToPrimes", "(I)V"⟩, 3), (⟨"PartitionPress$Filler", "takeGreatest", "()I"⟩, 3), (⟨"PartitionPress$Box", "withoutOnes", "(II)J"⟩, 2), (⟨"PartitionPress$Box", "withOnes", "(III)J"⟩, 2), (⟨"PartitionPressModel", "isSheet", "(I)Z"⟩, 27), (⟨"PartitionPressModel", "at", "(II)I"⟩, 27), (⟨"PartitionPressModel", "size", "(I)I"⟩, 27), (⟨"PartitionPressModel", "note", "(I)V"⟩, 27), (⟨"PartitionPressModel", "push", "(II)V"⟩, 27), (⟨"PartitionPressModel", "empty", "(I)V"⟩, 27), (⟨"PartitionPressModel", "give", "(II)V"⟩, 27), (⟨"PartitionPressModel", "rankOf", "(I)I"⟩, 27), (⟨"PartitionPressModel", "crankOf", "(I)I"⟩, 27), (⟨"PartitionPressModel", "hookOf", "(III)I"⟩, 27), (⟨"PartitionPressModel", "column", "(II)I"⟩, 27)]
theorem lw_r3 : ∀ q ∈ lw_privs_3, lw_okq q := List.forall_mem_cons.mpr ⟨lw_p32, List.forall_mem_cons.mpr ⟨lw_p33, List.forall_mem_cons.mpr ⟨lw_p34, List.forall_mem_cons.mpr ⟨lw_p35, List.forall_mem_cons.mpr ⟨lw_p36, List.forall_mem_cons.mpr ⟨lw_p37, List.forall_mem_cons.mpr ⟨lw_p38, List.forall_mem_cons.mpr ⟨lw_p39, List.forall_mem_cons.mpr ⟨lw_p40, List.forall_mem_cons.mpr ⟨lw_p41, List.forall_mem_cons.mpr ⟨lw_p42, List.forall_mem_cons.mpr ⟨lw_p43, List.forall_mem_cons.mpr ⟨lw_p44, List.forall_mem_cons.mpr ⟨lw_p45, List.forall_mem_cons.mpr ⟨lw_p46, List.forall_mem_cons.mpr ⟨lw_p47, fun _ h => absurd h List.not_mem_nil⟩⟩⟩⟩⟩⟩⟩⟩⟩⟩⟩⟩⟩⟩⟩⟩
theorem lw_p48 : lw_okq (⟨"PartitionPressModel", "clashOf", "(II)I"⟩, 27) := ⟨⟨by decide +kernel, by decide +kernel⟩, List.mem_of_getElem? (i := 903) (by decide +kernel), List.mem_of_getElem? (i := 1085) (by decide +kernel), List.mem_of_getElem? (i := 1086) (by decide +kernel)⟩
theorem lw_p49 : lw_okq (⟨"PartitionPressModel", "kindOf", "(I)I"⟩, 27) := ⟨⟨by decide +kernel, by decide +kernel⟩, List.mem_of_getElem? (i := 903) (by decide +kernel), List.mem_of_getElem? (i := 1089) (by decide +kernel), List.mem_of_getElem? (i := 1090) (by decide +kernel)⟩
theorem lw_p50 : lw_okq (⟨"PartitionPressModel", "lets", "(II)Z"⟩, 27) := ⟨⟨by decide +kernel, by decide +kernel⟩, List.mem_of_getElem? (i := 903) (by decide +kernel), List.mem_of_getElem? (i := 1093) (by decide +kernel), List.mem_of_getElem? (i := 1094) (by decide +kernel)⟩
theorem lw_p51 : lw_okq (⟨"PartitionPressModel", "number", "(II)I"⟩, 27) := ⟨⟨by decide +kernel, by decide +kernel⟩, List.mem_of_getElem? (i := 903) (by decide +kernel), List.mem_of_getElem? (i := 1097) (by decide +kernel), List.mem_of_getElem? (i := 1098) (by decide +kernel)⟩
theorem lw_p52 : lw_okq (⟨"PartitionPressModel", "times", "(I)I"⟩, 27) := ⟨⟨by decide +kernel, by decide +kernel⟩, List.mem_of_getElem? (i := 903) (by decide +kernel), List.mem_of_getElem? (i := 1101) (by decide +kernel), List.mem_of_getElem? (i := 1102) (by decide +kernel)⟩
theorem lw_p53 : lw_okq (⟨"PartitionPressModel", "gap", "(II)I"⟩, 27) := ⟨⟨by decide +kernel, by decide +kernel⟩, List.mem_of_getElem? (i := 903) (by decide +kernel), List.mem_of_getElem? (i := 1105) (by decide +kernel), List.mem_of_getElem? (i := 1106) (by decide +kernel)⟩
theorem lw_p54 : lw_okq (⟨"PartitionPressModel", "isSize", "(II)Z"⟩, 27) := ⟨⟨by decide +kernel, by decide +kernel⟩, List.mem_of_getElem? (i := 903) (by decide +kernel), List.mem_of_getElem? (i := 1113) (by decide +kernel), List.mem_of_getElem? (i := 1114) (by decide +kernel)⟩
theorem lw_p55 : lw_okq (⟨"PartitionPressModel", "countOf", "(II)J"⟩, 27) := ⟨⟨by decide +kernel, by decide +kernel⟩, List.mem_of_getElem? (i := 903) (by decide +kernel), List.mem_of_getElem? (i := 1117) (by decide +kernel), List.mem_of_getElem? (i := 1118) (by decide +kernel)⟩
theorem lw_p56 : lw_okq (⟨"PartitionPressModel", "make", "(I)V"⟩, 27) := ⟨⟨by decide +kernel, by decide +kernel⟩, List.mem_of_getElem? (i := 903) (by decide +kernel), List.mem_of_getElem? (i := 1121) (by decide +kernel), List.mem_of_getElem? (i := 1122) (by decide +kernel)⟩
theorem lw_p57 : lw_okq (⟨"PartitionPressModel", "isTable", "(I)Z"⟩, 27) := ⟨⟨by decide +kernel, by decide +kernel⟩, List.mem_of_getElem? (i := 903) (by decide +kernel), List.mem_of_getElem? (i := 1125) (by decide +kernel), List.mem_of_getElem? (i := 1126) (by decide +kernel)⟩
theorem lw_p58 : lw_okq (⟨"PartitionPressModel", "makeFirsts", "(I)V"⟩, 27) := ⟨⟨by decide +kernel, by decide +kernel⟩, List.mem_of_getElem? (i := 903) (by decide +kernel), List.mem_of_getElem? (i := 1129) (by decide +kernel), List.mem_of_getElem? (i := 1130) (by decide +kernel)⟩
theorem lw_p59 : lw_okq (⟨"PartitionPressModel", "makeBelow", "(I)V"⟩, 27) := ⟨⟨by decide +kernel, by decide +kernel⟩, List.mem_of_getElem? (i := 903) (by decide +kernel), List.mem_of_getElem? (i := 1133) (by decide +kernel), List.mem_of_getElem? (i := 1134) (by decide +kernel)⟩
theorem lw_p60 : lw_okq (⟨"PartitionPressModel", "cell", "(II)J"⟩, 27) := ⟨⟨by decide +kernel, by decide +kernel⟩, List.mem_of_getElem? (i := 903) (by decide +kernel), List.mem_of_getElem? (i := 1137) (by decide +kernel), List.mem_of_getElem? (i := 1138) (by decide +kernel)⟩
theorem lw_p61 : lw_okq (⟨"PartitionPressModel", "makeBox", "()V"⟩, 27) := ⟨⟨by decide +kernel, by decide +kernel⟩, List.mem_of_getElem? (i := 903) (by decide +kernel), List.mem_of_getElem? (i := 1141) (by decide +kernel), List.mem_of_getElem? (i := 1142) (by decide +kernel)⟩
theorem lw_p62 : lw_okq (⟨"PartitionPressModel", "inBox", "(III)J"⟩, 27) := ⟨⟨by decide +kernel, by decide +kernel⟩, List.mem_of_getElem? (i := 903) (by decide +kernel), List.mem_of_getElem? (i := 1145) (by decide +kernel), List.mem_of_getElem? (i := 1146) (by decide +kernel)⟩
theorem lw_p63 : lw_okq (⟨"PartitionPressModel", "makeOwn", "(I)V"⟩, 27) := ⟨⟨by decide +kernel, by decide +kernel⟩, List.mem_of_getElem? (i := 903) (by decide +kernel), List.mem_of_getElem? (i := 1149) (by decide +kernel), List.mem_of_getElem? (i := 1150) (by decide +kernel)⟩
def lw_privs_4 : List (MethodName × Nat) := [(⟨"PartitionPressModel", "clashOf", "(II)I"⟩, 27), (⟨"PartitionPressModel", "kindOf", "(I)I"⟩, 27), (⟨"PartitionPressModel", "lets", "(II)Z"⟩, 27), (⟨"PartitionPressModel", "number", "(II)I"⟩, 27), (⟨"PartitionPressModel", "times", "(I)I"⟩, 27), (⟨"PartitionPressModel", "gap", "(II)I"⟩, 27), (⟨"PartitionPressModel", "isSize", "(II)Z"⟩, 27), (⟨"PartitionPressModel", "countOf", "(II)J"⟩, 27), (⟨"PartitionPressModel", "make", "(I)V"⟩, 27), (⟨"PartitionPressModel", "isTable", "(I)Z"⟩, 27), (⟨"PartitionPressModel", "makeFirsts", "(I)V"⟩, 27), (⟨"PartitionPressModel", "makeBelow", "(I)V"⟩, 27), (⟨"PartitionPressModel", "cell", "(II)J"⟩, 27), (⟨"PartitionPressModel", "makeBox", "()V"⟩, 27), (⟨"PartitionPressModel", "inBox", "(III)J"⟩, 27), (⟨"PartitionPressModel", "makeOwn", "(I)V"⟩, 27)]
theorem lw_r4 : ∀ q ∈ lw_privs_4, lw_okq q := List.forall_mem_cons.mpr ⟨lw_p48, List.forall_mem_cons.mpr ⟨lw_p49, List.forall_mem_cons.mpr ⟨lw_p50, List.forall_mem_cons.mpr ⟨lw_p51, List.forall_mem_cons.mpr ⟨lw_p52, List.forall_mem_cons.mpr ⟨lw_p53, List.forall_mem_cons.mpr ⟨lw_p54, List.forall_mem_cons.mpr ⟨lw_p55, List.forall_mem_cons.mpr ⟨lw_p56, List.forall_mem_cons.mpr ⟨lw_p57, List.forall_mem_cons.mpr ⟨lw_p58, List.forall_mem_cons.mpr ⟨lw_p59, List.forall_mem_cons.mpr ⟨lw_p60, List.forall_mem_cons.mpr ⟨lw_p61, List.forall_mem_cons.mpr ⟨lw_p62, List.forall_mem_cons.mpr ⟨lw_p63, fun _ h => absurd h List.not_mem_nil⟩⟩⟩⟩⟩⟩⟩⟩⟩⟩⟩⟩⟩⟩⟩⟩
theorem lw_p64 : lw_okq (⟨"PartitionPressModel", "makeFor", "(I)V"⟩, 27) := ⟨⟨by decide +kernel, by decide +kernel⟩, List.mem_of_getElem? (i := 903) (by decide +kernel), List.mem_of_getElem? (i := 1159) (by decide +kernel), List.mem_of_getElem? (i := 1160) (by decide +kernel)⟩
theorem lw_p65 : lw_okq (⟨"PartitionPressModel", "ways", "(IIIIII)J"⟩, 27) := ⟨⟨by decide +kernel, by decide +kernel⟩, List.mem_of_getElem? (i := 903) (by decide +kernel), List.mem_of_getElem? (i := 1163) (by decide +kernel), List.mem_of_getElem? (i := 1164) (by decide +kernel)⟩
theorem lw_p66 : lw_okq (⟨"PartitionPressModel", "set", "(I)V"⟩, 27) := ⟨⟨by decide +kernel, by decide +kernel⟩, List.mem_of_getElem? (i := 903) (by decide +kernel), List.mem_of_getElem? (i := 1171) (by decide +kernel), List.mem_of_getElem? (i := 1172) (by decide +kernel)⟩
theorem lw_p67 : lw_okq (⟨"PartitionPressModel", "mayLead", "(II)Z"⟩, 27) := ⟨⟨by decide +kernel, by decide +kernel⟩, List.mem_of_getElem? (i := 903) (by decide +kernel), List.mem_of_getElem? (i := 1179) (by decide +kernel), List.mem_of_getElem? (i := 1180) (by decide +kernel)⟩
theorem lw_p68 : lw_okq (⟨"PartitionPressModel", "isBelow", "(II)Z"⟩, 27) := ⟨⟨by decide +kernel, by decide +kernel⟩, List.mem_of_getElem? (i := 903) (by decide +kernel), List.mem_of_getElem? (i := 1183) (by decide +kernel), List.mem_of_getElem? (i := 1184) (by decide +kernel)⟩
theorem lw_p69 : lw_okq (⟨"PartitionPressModel", "countParts", "(I)V"⟩, 27) := ⟨⟨by decide +kernel, by decide +kernel⟩, List.mem_of_getElem? (i := 903) (by decide +kernel), List.mem_of_getElem? (i := 1187) (by decide +kernel), List.mem_of_getElem? (i := 1188) (by decide +kernel)⟩
theorem lw_p70 : lw_okq (⟨"PartitionPressModel", "fromOften", "()V"⟩, 27) := ⟨⟨by decide +kernel, by decide +kernel⟩, List.mem_of_getElem? (i := 903) (by decide +kernel), List.mem_of_getElem? (i := 1191) (by decide +kernel), List.mem_of_getElem? (i := 1192) (by decide +kernel)⟩
theorem lw_p71 : lw_okq (⟨"PartitionPressModel", "isUnlike", "(I)Z"⟩, 27) := ⟨⟨by decide +kernel, by decide +kernel⟩, List.mem_of_getElem? (i := 903) (by decide +kernel), List.mem_of_getElem? (i := 1195) (by decide +kernel), List.mem_of_getElem? (i := 1196) (by decide +kernel)⟩
theorem lw_p72 : lw_okq (⟨"PartitionPressModel", "isOdd", "(I)Z"⟩, 27) := ⟨⟨by decide +kernel, by decide +kernel⟩, List.mem_of_getElem? (i := 903) (by decide +kernel), List.mem_of_getElem? (i := 1199) (by decide +kernel), List.mem_of_getElem? (i := 1200) (by decide +kernel)⟩
theorem lw_p73 : lw_okq (⟨"PartitionPressModel", "fromHooks", "(I)V"⟩, 27) := ⟨⟨by decide +kernel, by decide +kernel⟩, List.mem_of_getElem? (i := 903) (by decide +kernel), List.mem_of_getElem? (i := 1203) (by decide +kernel), List.mem_of_getElem? (i := 1204) (by decide +kernel)⟩
theorem lw_p74 : lw_okq (⟨"PartitionPressModel", "bend", "(I)V"⟩, 27) := ⟨⟨by decide +kernel, by decide +kernel⟩, List.mem_of_getElem? (i := 903) (by decide +kernel), List.mem_of_getElem? (i := 1207) (by decide +kernel), List.mem_of_getElem? (i := 1208) (by decide +kernel)⟩
theorem lw_p75 : lw_okq (⟨"PartitionPressModel", "turn", "(I)V"⟩, 27) := ⟨⟨by decide +kernel, by decide +kernel⟩, List.mem_of_getElem? (i := 903) (by decide +kernel), List.mem_of_getElem? (i := 1211) (by decide +kernel), List.mem_of_getElem? (i := 1212) (by decide +kernel)⟩
theorem lw_p76 : lw_okq (⟨"PartitionPressModel", "move", "(I)V"⟩, 27) := ⟨⟨by decide +kernel, by decide +kernel⟩, List.mem_of_getElem? (i := 903) (by decide +kernel), List.mem_of_getElem? (i := 1215) (by decide +kernel), List.mem_of_getElem? (i := 1216) (by decide +kernel)⟩
theorem lw_p77 : lw_okq (⟨"PartitionPressModel", "hasMultiple", "(II)Z"⟩, 27) := ⟨⟨by decide +kernel, by decide +kernel⟩, List.mem_of_getElem? (i := 903) (by decide +kernel), List.mem_of_getElem? (i := 1223) (by decide +kernel), List.mem_of_getElem? (i := 1224) (by decide +kernel)⟩
theorem lw_p78 : lw_okq (⟨"PartitionPressModel", "isOwn", "(I)Z"⟩, 27) := ⟨⟨by decide +kernel, by decide +kernel⟩, List.mem_of_getElem? (i := 903) (by decide +kernel), List.mem_of_getElem? (i := 1227) (by decide +kernel), List.mem_of_getElem? (i := 1228) (by decide +kernel)⟩
theorem lw_p79 : lw_okq (⟨"PartitionPressModel", "unbend", "(I)V"⟩, 27) := ⟨⟨by decide +kernel, by decide +kernel⟩, List.mem_of_getElem? (i := 903) (by decide +kernel), List.mem_of_getElem? (i := 1231) (by decide +kernel), List.mem_of_getElem? (i := 1232) (by decide +kernel)⟩
def lw_privs_5 : List (MethodName × Nat) := [(⟨"PartitionPressModel", "makeFor", "(I)V"⟩, 27), (⟨"PartitionPressModel", "ways", "(IIIIII)J"⟩, 27), (⟨"PartitionPressModel", "set", "(I)V"⟩, 27), (⟨"PartitionPressModel", "mayLead", "(II)Z"⟩, 27), (⟨"PartitionPressModel", "isBelow", "(II)Z"⟩, 27), (⟨"PartitionPressModel", "countParts", "(I)V"⟩, 27), (⟨"PartitionPressModel", "fromOften", "()V"⟩, 27), (⟨"PartitionPressModel", "isUnlike", "(I)Z"⟩, 27), (⟨"PartitionPressModel", "isOdd", "(I)Z"⟩, 27), (⟨"PartitionPressModel", "fromHooks", "(I)V"⟩, 27), (⟨"PartitionPressModel", "bend", "(I)V"⟩, 27), (⟨"PartitionPressModel", "turn", "(I)V"⟩, 27), (⟨"PartitionPressModel", "move", "(I)V"⟩, 27), (⟨"PartitionPressModel", "hasMultiple", "(II)Z"⟩, 27), (⟨"PartitionPressModel", "isOwn", "(I)Z"⟩, 27), (⟨"PartitionPressModel", "unbend", "(I)V"⟩, 27)]
theorem lw_r5 : ∀ q ∈ lw_privs_5, lw_okq q := List.forall_mem_cons.mpr ⟨lw_p64, List.forall_mem_cons.mpr ⟨lw_p65, List.forall_mem_cons.mpr ⟨lw_p66, List.forall_mem_cons.mpr ⟨lw_p67, List.forall_mem_cons.mpr ⟨lw_p68, List.forall_mem_cons.mpr ⟨lw_p69, List.forall_mem_cons.mpr ⟨lw_p70, List.forall_mem_cons.mpr ⟨lw_p71, List.forall_mem_cons.mpr ⟨lw_p72, List.forall_mem_cons.mpr ⟨lw_p73, List.forall_mem_cons.mpr ⟨lw_p74, List.forall_mem_cons.mpr ⟨lw_p75, List.forall_mem_cons.mpr ⟨lw_p76, List.forall_mem_cons.mpr ⟨lw_p77, List.forall_mem_cons.mpr ⟨lw_p78, List.forall_mem_cons.mpr ⟨lw_p79, fun _ h => absurd h List.not_mem_nil⟩⟩⟩⟩⟩⟩⟩⟩⟩⟩⟩⟩⟩⟩⟩⟩
theorem lw_p80 : lw_okq (⟨"PartitionPressModel", "toBeads", "(II)V"⟩, 27) := ⟨⟨by decide +kernel, by decide +kernel⟩, List.mem_of_getElem? (i := 903) (by decide +kernel), List.mem_of_getElem? (i := 1242) (by decide +kernel), List.mem_of_getElem? (i := 1243) (by decide +kernel)⟩
theorem lw_p81 : lw_okq (⟨"PartitionPressModel", "pushDown", "(I)V"⟩, 27) := ⟨⟨by decide +kernel, by decide +kernel⟩, List.mem_of_getElem? (i := 903) (by decide +kernel), List.mem_of_getElem? (i := 1246) (by decide +kernel), List.mem_of_getElem? (i := 1247) (by decide +kernel)⟩
theorem lw_p82 : lw_okq (⟨"PartitionPressModel", "fromBeads", "()V"⟩, 27) := ⟨⟨by decide +kernel, by decide +kernel⟩, List.mem_of_getElem? (i := 903) (by decide +kernel), List.mem_of_getElem? (i := 1250) (by decide +kernel), List.mem_of_getElem? (i := 1251) (by decide +kernel)⟩
theorem lw_p83 : lw_okq (⟨"PartitionPressModel", "fillingsOf", "(I)J"⟩, 27) := ⟨⟨by decide +kernel, by decide +kernel⟩, List.mem_of_getElem? (i := 903) (by decide +kernel), List.mem_of_getElem? (i := 1270) (by decide +kernel), List.mem_of_getElem? (i := 1271) (by decide +kernel)⟩
theorem lw_p84 : lw_okq (⟨"PartitionPressModel", "split", "(II)V"⟩, 27) := ⟨⟨by decide +kernel, by decide +kernel⟩, List.mem_of_getElem? (i := 903) (by decide +kernel), List.mem_of_getElem? (i := 1274) (by decide +kernel), List.mem_of_getElem? (i := 1275) (by decide +kernel)⟩
theorem lw_p85 : lw_okq (⟨"PartitionPressModel", "without", "(I)J"⟩, 27) := ⟨⟨by decide +kernel, by decide +kernel⟩, List.mem_of_getElem? (i := 903) (by decide +kernel), List.mem_of_getElem? (i := 1282) (by decide +kernel), List.mem_of_getElem? (i := 1283) (by decide +kernel)⟩
theorem lw_p86 : lw_okq (⟨"PartitionPressModel", "takeSquare", "(II)V"⟩, 27) := ⟨⟨by decide +kernel, by decide +kernel⟩, List.mem_of_getElem? (i := 903) (by decide +kernel), List.mem_of_getElem? (i := 1286) (by decide +kernel), List.mem_of_getElem? (i := 1287) (by decide +kernel)⟩
theorem lw_p87 : lw_okq (⟨"PartitionPressModel", "makeTwos", "()V"⟩, 27) := ⟨⟨by decide +kernel, by decide +kernel⟩, List.mem_of_getElem? (i := 903) (by decide +kernel), List.mem_of_getElem? (i := 1294) (by decide +kernel), List.mem_of_getElem? (i := 1295) (by decide +kernel)⟩
theorem lw_p88 : lw_okq (⟨"PartitionPressModel", "two", "(II)J"⟩, 27) := ⟨⟨by decide +kernel, by decide +kernel⟩, List.mem_of_getElem? (i := 903) (by decide +kernel), List.mem_of_getElem? (i := 1298) (by decide +kernel), List.mem_of_getElem? (i := 1299) (by decide +kernel)⟩
theorem lw_p89 : lw_okq (⟨"PartitionPressModel", "withOnes", "(III)J"⟩, 27) := ⟨⟨by decide +kernel, by decide +kernel⟩, List.mem_of_getElem? (i := 903) (by decide +kernel), List.mem_of_getElem? (i := 1305) (by decide +kernel), List.mem_of_getElem? (i := 1306) (by decide +kernel)⟩
theorem lw_p90 : lw_okq (⟨"PartitionPressModel", "isRow", "(I)Z"⟩, 27) := ⟨⟨by decide +kernel, by decide +kernel⟩, List.mem_of_getElem? (i := 903) (by decide +kernel), List.mem_of_getElem? (i := 1313) (by decide +kernel), List.mem_of_getElem? (i := 1314) (by decide +kernel)⟩
theorem lw_p91 : lw_okq (⟨"PartitionPressModel", "setRow", "(I)V"⟩, 27) := ⟨⟨by decide +kernel, by decide +kernel⟩, List.mem_of_getElem? (i := 903) (by decide +kernel), List.mem_of_getElem? (i := 1328) (by decide +kernel), List.mem_of_getElem? (i := 1329) (by decide +kernel)⟩
theorem lw_p92 : lw_okq (⟨"PartitionPressModel", "countAt", "(II)J"⟩, 27) := ⟨⟨by decide +kernel, by decide +kernel⟩, List.mem_of_getElem? (i := 903) (by decide +kernel), List.mem_of_getElem? (i := 1336) (by decide +kernel), List.mem_of_getElem? (i := 1337) (by decide +kernel)⟩
def lw_privs_6 : List (MethodName × Nat) := [(⟨"PartitionPressModel", "toBeads", "(II)V"⟩, 27), (⟨"PartitionPressModel", "pushDown", "(I)V"⟩, 27), (⟨"PartitionPressModel", "fromBeads", "()V"⟩, 27), (⟨"PartitionPressModel", "fillingsOf", "(I)J"⟩, 27), (⟨"PartitionPressModel", "split", "(II)V"⟩, 27), (⟨"PartitionPressModel", "without", "(I)J"⟩, 27), (⟨"PartitionPressModel", "takeSquare", "(II)V"⟩, 27), (⟨"PartitionPressModel", "makeTwos", "()V"⟩, 27), (⟨"PartitionPressModel", "two", "(II)J"⟩, 27), (⟨"PartitionPressModel", "withOnes", "(III)J"⟩, 27), (⟨"PartitionPressModel", "isRow", "(I)Z"⟩, 27), (⟨"PartitionPressModel", "setRow", "(I)V"⟩, 27), (⟨"PartitionPressModel", "countAt", "(II)J"⟩, 27)]
theorem lw_r6 : ∀ q ∈ lw_privs_6, lw_okq q := List.forall_mem_cons.mpr ⟨lw_p80, List.forall_mem_cons.mpr ⟨lw_p81, List.forall_mem_cons.mpr ⟨lw_p82, List.forall_mem_cons.mpr ⟨lw_p83, List.forall_mem_cons.mpr ⟨lw_p84, List.forall_mem_cons.mpr ⟨lw_p85, List.forall_mem_cons.mpr ⟨lw_p86, List.forall_mem_cons.mpr ⟨lw_p87, List.forall_mem_cons.mpr ⟨lw_p88, List.forall_mem_cons.mpr ⟨lw_p89, List.forall_mem_cons.mpr ⟨lw_p90, List.forall_mem_cons.mpr ⟨lw_p91, List.forall_mem_cons.mpr ⟨lw_p92, fun _ h => absurd h List.not_mem_nil⟩⟩⟩⟩⟩⟩⟩⟩⟩⟩⟩⟩⟩
def lw_privs : List (MethodName × Nat) := lw_privs_1 ++ (lw_privs_2 ++ (lw_privs_3 ++ (lw_privs_4 ++ (lw_privs_5 ++ (lw_privs_6)))))
def lw_tbl : List Cond := k2_sels lw_privs ++ tables_1
theorem lw_privs_ok : ∀ q ∈ lw_privs, lw_okq q := by
  show ∀ q ∈ lw_privs_1 ++ (lw_privs_2 ++ (lw_privs_3 ++ (lw_privs_4 ++ (lw_privs_5 ++ (lw_privs_6))))), lw_okq q
  exact List.forall_mem_append.mpr ⟨lw_r1, List.forall_mem_append.mpr ⟨lw_r2, List.forall_mem_append.mpr ⟨lw_r3, List.forall_mem_append.mpr ⟨lw_r4, List.forall_mem_append.mpr ⟨lw_r5, lw_r6⟩⟩⟩⟩⟩

def va_AOA (t : FieldType) (U : State) : Prop := (Cond.arrayOver (.array t)).before #[] U = true
theorem va_AOA.use {t : FieldType} {A : Array Value} {U : State} (h : va_AOA t U) : (Cond.arrayOver (.array t)).before A U = true := h
/-! ===== BEGIN words of one list among another's, by their places ===== -/
theorem goodIn_r {big : List Cond} (ws : List Cond) (ps : List Nat) (hp : ws = ps.filterMap (fun i => big[i]?)) (h : ws.all goodWord = true) : GoodIn big ws := by
  intro w hw
  have h1 := List.all_eq_true.mp h w hw
  rw [hp] at hw
  obtain ⟨i, -, hi⟩ := List.mem_filterMap.mp hw
  have hm : w ∈ big := by first | exact List.mem_of_getElem? hi | exact List.getElem?_mem hi
  exact ⟨hm, good_of_word h1⟩
theorem goodIn_app {big a b : List Cond} (ha : GoodIn big a) (hb : GoodIn big b) : GoodIn big (a ++ b) := fun w h => (List.mem_append.mp h).elim (ha w) (hb w)
theorem goodIn_ca {big a b : List Cond} {c : Cond} (ha : GoodIn big (c :: a)) (hb : GoodIn big b) : GoodIn big (c :: (a ++ b)) := fun w h => (List.mem_cons.mp h).elim (fun e => ha w (List.mem_cons.mpr (Or.inl e))) (fun h => (List.mem_append.mp h).elim (fun h => ha w (List.mem_cons.mpr (Or.inr h))) (hb w))
theorem goodIn_sub {big ws : List Cond} (hm : ∀ w ∈ ws, w ∈ big) (h : ws.all goodWord = true) : GoodIn big ws := fun w hw => ⟨hm w hw, good_of_word (List.all_eq_true.mp h w hw)⟩
/-! ===== END ===== -/

/-! ===== BEGIN new T[n][m]: the outer array a place, the inner ones among the pooled ===== -/
/-- f, but v at every address of l -/
def vr_up {α : Type} (f : Nat → α) (l : List Nat) (v : α) : Nat → α := fun a => if a ∈ l then v else f a
theorem vr_up_in {α : Type} {f : Nat → α} {l : List Nat} {v : α} {a : Nat} (h : a ∈ l) : vr_up f l v a = v := if_pos h
theorem vr_up_ne {α : Type} {f : Nat → α} {l : List Nat} {v : α} {a : Nat} (h : a ∉ l) : vr_up f l v a = f a := if_neg h
theorem vr_rows {L l : List Nat} {f : Nat → va_E} {e : va_E} (h : ∀ a, a ∈ l → a ∉ L) : va_pl L f ++ l.map (fun a => (a, e)) = va_pl (L ++ l) (vr_up f l e) := by
  unfold va_pl
  rw [List.map_append]
  congr 1
  · apply List.map_congr_left
    intro a ha
    rw [vr_up_ne (fun q => h a q ha)]
  · apply List.map_congr_left
    intro a ha
    rw [vr_up_in ha]
theorem vr_lay {X rows : va_W} {x : Nat × va_E} {pl : va_W} {D : va_G} {cl : List vw_C} {H : Heap} (hP : va_P D cl (((X ++ pl) ++ [x]) ++ rows) H) : va_P D cl ((X ++ [x]) ++ (pl ++ rows)) H := by
  rw [List.append_assoc (X ++ pl)] at hP
  have h := va_P.swap hP
  rw [← List.append_assoc X] at h
  have h2 := va_P.swap h
  rw [List.append_assoc (X ++ [x])] at h2
  exact h2
theorem vr_layD {X rows : va_W} {x : Nat × va_E} {pl : va_W} {A : Nat → Prop} (hD : va_D A (((X ++ pl) ++ [x]) ++ rows)) : va_D A ((X ++ [x]) ++ (pl ++ rows)) := by
  rw [List.append_assoc (X ++ pl)] at hD
  have h := va_D.swap hD
  rw [← List.append_assoc X] at h
  have h2 := va_D.swap h
  rw [List.append_assoc (X ++ [x])] at h2
  exact h2
theorem vr_outer (c : ClassId) (N h0 : Nat) : ∀ i : Nat, Jvm.Free.Multi.outerC c N h0 i = arrV c N (fun j => va_rf (if j < i then some (h0 + 1 + j) else none))
  | 0 => by
    show ({ cls := c, slots := Array.replicate N .null, vm := .none } : Cell) = _
    rw [arrV_new]
    refine congrArg (arrV c N) (funext fun j => ?_)
    simp [va_rf]
  | i + 1 => by
    show (Jvm.Free.Multi.outerC c N h0 i).setSlot i (.ref (h0 + 1 + i)) = _
    rw [vr_outer c N h0 i, arrV_store]
    refine congrArg (arrV c N) (funext fun j => ?_)
    by_cases e : j = i
    · subst e
      simp [updV, va_rf]
    · by_cases h : j < i
      · simp [updV, e, h, Nat.lt_succ_of_lt h]
      · simp [updV, e, h, show ¬ j < i + 1 by omega]
section VGM
variable {p : Program} {l : Launch} {e : Env} {R : Room} {s : State} {m : MethodId} {args : Array Value} {below : List Frame} {meth : Method} {c : Code} {H : Heap} {locs : List Loc} {cells slots : Nat} {Q : State → Prop}
variable {cc : ByteArray} {pc : Nat} {ls : Array Slot} {rest : List Value} {D : va_G} {cl : List vw_C} {A : Nat → Prop} {a : Nat} {tys : List (ClassId × FieldType)} {ws : va_W} {H0 : Heap}
theorem va_mna {X : va_W} {L : List Nat} {f : Nat → va_E} {cc : ByteArray} (hexec : p.tables.exec = Jvm.exec) (hb : c.code = cc) {own : String} {index : Nat} {ty : FieldType} {cy : ClassId} (hown : s.vm.findClass own = some m.cls) (hclink : (Cond.classLink own index ("[" ++ (FieldType.array ty).toString)).before args s = true) (hover : va_AOA ty s) (harr : (Cond.arrayClass ty).before args s = true) (hcy : s.vm.findClass (FieldType.array ty).toString = some cy)
    (hK : va_K D cl tys s) (hP : va_P D cl (X ++ va_pl L f) H) (hD : va_D A (X ++ va_pl L f)) (hS : va_S A H0 H locs) (hA : ∀ q, H0.size ≤ q → A q) {n k : Int32} {N' K' : Nat} {z : vp_A} (hn : ¬ n < 0) (hk : ¬ k < 0) (hN : n.toNatClampNeg = N') (hM : k.toNatClampNeg = K')
    (hb1 : N' * 4 ≤ 536870912) (hb2 : K' * componentBytes ty ≤ 536870912) (hb3 : K' ≤ 536870912) (hdf : fits ty (defaultValue ty) = true) (hdd : (defaultValue ty).isDefault = true) (hcells : cells + (1 + N') ≤ R.cells) (hslots : slots + (N' + N' * K') ≤ R.slots) (hz : ∀ c : ClassId, Jvm.Free.Multi.innerC c K' (defaultValue ty) = vp_cell c z) (hdg : decode cc pc = .ok (.multianewarray index 2, 4))
    (kk : ∀ (q : Nat) (r : Nat → Nat) (cA : ClassId) (H1 : Heap), (∀ i j : Nat, i < N' → j < N' → r i = r j → i = j) → (∀ i : Nat, i < N' → r i ∉ L) → va_K D cl (tys ++ [(cA, .array ty)]) s →
      va_P D cl ((X ++ [(q, .inl (cA, N', .inr (.inr (.inr (.inr (fun i => if i < N' then some (r i) else none))))))]) ++ va_pl (L ++ (List.range N').map r) (vr_up f ((List.range N').map r) (.inl (cy, z)))) H1 → va_D A ((X ++ [(q, .inl (cA, N', .inr (.inr (.inr (.inr (fun i => if i < N' then some (r i) else none))))))]) ++ va_pl (L ++ (List.range N').map r) (vr_up f ((List.range N').map r) (.inl (cy, z)))) → va_S A H0 H1 locs →
      W p l e R s m args below meth c H1 locs (cells + 1 + N') (slots + N' + N' * K') Q (F0 m (pc + 4) ls (.ref q :: rest))) : W p l e R s m args below meth c H locs cells slots Q (F0 m pc ls (.int k :: .int n :: rest)) := by
  subst hN
  subst hM
  intro T hT Xs
  obtain ⟨vm₁, cA, comp, -, fA, fC, hO, -, X', step⟩ := Xs.multianewarray2F hexec hown hclink (va_AOA.use hover) harr (g := F0 m pc ls (.int k :: .int n :: rest)) rfl (by rw [hb]; exact hdg) rfl hn hk hb1 hb2 hb3 hdf hdd hcells hslots
  have ec : some cy = some comp := hcy.symm.trans fC
  cases ec
  generalize hF : Jvm.Free.Multi.fill (T.setVm vm₁) cA cy n.toNatClampNeg k.toNatClampNeg (defaultValue ty) n.toNatClampNeg = F at X' step
  have hTh : (T.setVm vm₁).heap = H := hT
  obtain ⟨f1, f2, -, -⟩ := Jvm.Free.Multi.fill_facts (T.setVm vm₁) cA cy n.toNatClampNeg k.toNatClampNeg (defaultValue ty) n.toNatClampNeg
  rw [hF, hTh] at f1 f2
  have hold : ∀ x : Nat, x < H.size → F.heap[x]? = H[x]? := fun x hx => by
    have := Jvm.Free.Multi.fill_old (T.setVm vm₁) cA cy n.toNatClampNeg k.toNatClampNeg (defaultValue ty) (a := x) (by rw [hTh]; exact hx) n.toNatClampNeg
    rw [hF, hTh] at this
    exact this
  have hrow : ∀ j : Nat, j < n.toNatClampNeg → F.heap[H.size + 1 + j]? = some (vp_cell cy z) := fun j hj => by
    have := Jvm.Free.Multi.fill_inner (T.setVm vm₁) cA cy n.toNatClampNeg k.toNatClampNeg (defaultValue ty) n.toNatClampNeg j hj
    rw [hF, hTh, hz] at this
    exact this
  have hout : Jvm.Free.Multi.outerC cA n.toNatClampNeg H.size n.toNatClampNeg = vp_cell cA (n.toNatClampNeg, .inr (.inr (.inr (.inr (fun i => if i < n.toNatClampNeg then some (H.size + 1 + i) else none))))) := by
    rw [vp_cell_q]
    exact vr_outer cA n.toNatClampNeg H.size n.toNatClampNeg
  rw [hout] at f2
  have hlt : ∀ a, a ∈ L → a < H.size := fun a ha => by
    obtain ⟨k9, hk9⟩ := va_pl_get (X := X) (f := f) ha
    exact (hP k9 _ hk9).lt
  have hnl : ∀ i : Nat, i < n.toNatClampNeg → H.size + 1 + i ∉ L := fun i _ h => by
    have := hlt _ h
    omega
  have hnm : ∀ a, a ∈ (List.range n.toNatClampNeg).map (fun i => H.size + 1 + i) → a ∉ L := fun a ha h => by
    obtain ⟨i, -, rfl⟩ := List.mem_map.mp ha
    have := hlt _ h
    omega
  have hP0 : va_P D cl (X ++ va_pl L f) F.heap := hP.kept (fun k9 x hx => hold x.1 ((hP k9 x hx).lt))
  have hP1 : va_P D cl ((X ++ va_pl L f) ++ [(H.size, .inl (cA, n.toNatClampNeg, .inr (.inr (.inr (.inr (fun i => if i < n.toNatClampNeg then some (H.size + 1 + i) else none))))))]) F.heap := hP0.app (fun k9 x hx => by
    have h0 : k9 < 1 := (List.getElem?_eq_some_iff.mp hx).1
    rw [show k9 = 0 by omega] at hx
    cases hx
    exact f2)
  have hP2 : va_P D cl (((X ++ va_pl L f) ++ [(H.size, .inl (cA, n.toNatClampNeg, .inr (.inr (.inr (.inr (fun i => if i < n.toNatClampNeg then some (H.size + 1 + i) else none))))))]) ++ ((List.range n.toNatClampNeg).map (fun i => H.size + 1 + i)).map (fun a => (a, .inl (cy, z)))) F.heap := hP1.app (fun k9 x hx => by
    obtain ⟨a, ha, rfl⟩ := List.mem_map.mp (List.mem_of_getElem? hx)
    obtain ⟨i, hi, rfl⟩ := List.mem_map.mp ha
    exact hrow i (List.mem_range.mp hi))
  have hD2 : va_D A (((X ++ va_pl L f) ++ [(H.size, .inl (cA, n.toNatClampNeg, .inr (.inr (.inr (.inr (fun i => if i < n.toNatClampNeg then some (H.size + 1 + i) else none))))))]) ++ ((List.range n.toNatClampNeg).map (fun i => H.size + 1 + i)).map (fun a => (a, .inl (cy, z)))) := by
    have hD1 := hD.push (e := .inl (cA, n.toNatClampNeg, .inr (.inr (.inr (.inr (fun i => if i < n.toNatClampNeg then some (H.size + 1 + i) else none)))))) hP rfl (hA _ hS.1)
    generalize hW1 : (X ++ va_pl L f) ++ [(H.size, .inl (cA, n.toNatClampNeg, .inr (.inr (.inr (.inr (fun i => if i < n.toNatClampNeg then some (H.size + 1 + i) else none))))))] = W1 at hD1 hP1 ⊢
    have hle : ∀ (k9 : Nat) (x : Nat × va_E), W1[k9]? = some x → x.1 ≤ H.size := fun k9 x hx => by
      rw [← hW1] at hx
      by_cases hl : k9 < (X ++ va_pl L f).length
      · rw [List.getElem?_append_left hl] at hx
        exact Nat.le_of_lt ((hP k9 x hx).lt)
      · rw [List.getElem?_append_right (by omega)] at hx
        have h0 : k9 - (X ++ va_pl L f).length < 1 := (List.getElem?_eq_some_iff.mp hx).1
        rw [show k9 - (X ++ va_pl L f).length = 0 by omega] at hx
        cases hx
        exact Nat.le_refl _
    have hr : ∀ (k9 : Nat) (x : Nat × va_E), (((List.range n.toNatClampNeg).map (fun i => H.size + 1 + i)).map (fun a => ((a, .inl (cy, z)) : Nat × va_E)))[k9]? = some x → x.1 = H.size + 1 + k9 := fun k9 x hx => by
      rw [List.getElem?_map, List.getElem?_map] at hx
      by_cases h9 : k9 < n.toNatClampNeg
      · rw [List.getElem?_range h9] at hx
        cases hx
        rfl
      · have hn0 : (List.range n.toNatClampNeg)[k9]? = none := List.getElem?_eq_none (by rw [List.length_range]; omega)
        rw [hn0] at hx
        cases hx
    refine ⟨fun i j x y hi hj hxy => ?_, fun k9 x hx => ?_⟩
    · by_cases h1 : i < W1.length <;> by_cases h2 : j < W1.length
      · rw [List.getElem?_append_left h1] at hi
        rw [List.getElem?_append_left h2] at hj
        exact hD1.1 i j x y hi hj hxy
      · rw [List.getElem?_append_left h1] at hi
        rw [List.getElem?_append_right (by omega)] at hj
        have := hle _ _ hi
        have := hr _ _ hj
        omega
      · rw [List.getElem?_append_right (by omega)] at hi
        rw [List.getElem?_append_left h2] at hj
        have := hle _ _ hj
        have := hr _ _ hi
        omega
      · rw [List.getElem?_append_right (by omega)] at hi hj
        have := hr _ _ hi
        have := hr _ _ hj
        omega
    · by_cases h1 : k9 < W1.length
      · rw [List.getElem?_append_left h1] at hx
        exact hD1.2 k9 x hx
      · rw [List.getElem?_append_right (by omega)] at hx
        have := hr _ _ hx
        exact hA _ (by have := hS.1; omega)
  have hAr : ArrOfT s cA (.array ty) := fun N9 z9 => by
    obtain ⟨-, k9, hk9, cm9, hkk9⟩ := (hO 0 0 0).1
    exact ⟨(fun q hq => by cases hq), k9, hk9, cm9, hkk9⟩
  have hK2 : va_K D cl (tys ++ [(cA, .array ty)]) s := ⟨hK.1, fun k9 x hx => by
    by_cases hl : k9 < tys.length
    · rw [List.getElem?_append_left hl] at hx
      exact hK.2 k9 x hx
    · rw [List.getElem?_append_right (by omega)] at hx
      have h0 : k9 - tys.length < 1 := (List.getElem?_eq_some_iff.mp hx).1
      rw [show k9 - tys.length = 0 by omega] at hx
      cases hx
      exact ⟨hAr, fA⟩⟩
  obtain ⟨t, a1, b1⟩ := kk H.size (fun i => H.size + 1 + i) cA F.heap (fun i j _ _ h => by have h9 : H.size + 1 + i = H.size + 1 + j := h; omega) hnl hK2 (by rw [← vr_rows hnm]; exact vr_lay hP2) (by rw [← vr_rows hnm]; exact vr_layD hD2) ⟨by rw [f1]; have := hS.1; omega, fun x h1 h2 => (hold x (Nat.lt_of_lt_of_le h1 hS.1)).trans (hS.2.1 x h1 h2), hS.2.2⟩ F rfl X'
  refine ⟨t, step t ?_, b1⟩
  have e : T.heap.size = H.size := by rw [hT]
  rw [e]
  exact a1
end VGM
/-! ===== END ===== -/

def RX0 : String := "PartitionPress$Abacus"
def TX0 : u_T := fun k => match k with
  | 0 => ("PartitionPress$Abacus", "beads", "[Z", true)
  | _ => ("PartitionPress$Abacus", "runners", "I", false)
def tyX0 : Nat → FieldType := fun k => match k with
  | 0 => .array .boolean
  | _ => .int
theorem nmX0 : ∀ a, a < 2 → ∀ b, b < 2 → a ≠ b → (TX0 a).2.1 ≠ (TX0 b).2.1 := by decide +kernel
theorem tyX0_ok : ∀ k, k < 2 → parseFieldDescriptor (TX0 k).2.2.1 = some (tyX0 k) := by decide +kernel
abbrev cX0_init : ByteArray := prog_2_method_1_code
def yX0_init : MethodName := ⟨RX0, "<init>", "()V"⟩
abbrev cX0_set : ByteArray := prog_2_method_2_code
def yX0_set : MethodName := ⟨RX0, "set", "(LPartitionPress$Sum;II)V"⟩
abbrev cX0_setBead : ByteArray := prog_2_method_3_code
def yX0_setBead : MethodName := ⟨RX0, "setBead", "(I)V"⟩
abbrev cX0_beadsOn : ByteArray := prog_2_method_4_code
def yX0_beadsOn : MethodName := ⟨RX0, "beadsOn", "(I)I"⟩
abbrev cX0_emptyRunner : ByteArray := prog_2_method_5_code
def yX0_emptyRunner : MethodName := ⟨RX0, "emptyRunner", "(I)V"⟩
abbrev cX0_pushDown : ByteArray := prog_2_method_6_code
def yX0_pushDown : MethodName := ⟨RX0, "pushDown", "()V"⟩
abbrev cX0_lift : ByteArray := prog_2_method_7_code
def yX0_lift : MethodName := ⟨RX0, "lift", "(ILPartitionPress$Sum;)V"⟩
abbrev cX0_dropOne : ByteArray := prog_2_method_8_code
def yX0_dropOne : MethodName := ⟨RX0, "dropOne", "()Z"⟩
abbrev cX0_read : ByteArray := prog_2_method_9_code
def yX0_read : MethodName := ⟨RX0, "read", "(LPartitionPress$Sum;)V"⟩
abbrev cX0_readRunner : ByteArray := prog_2_method_10_code
def yX0_readRunner : MethodName := ⟨RX0, "readRunner", "(ILPartitionPress$Sum;)V"⟩
abbrev cX0_readEvery : ByteArray := prog_2_method_11_code
def yX0_readEvery : MethodName := ⟨RX0, "readEvery", "(IILPartitionPress$Sum;)V"⟩
def RX1 : String := "PartitionPress$Box"
def TX1 : u_T := fun k => match k with
  | 0 => ("PartitionPress$Box", "ways", "[I", true)
  | _ => ("PartitionPress$Box", "filled", "I", false)
def tyX1 : Nat → FieldType := fun k => match k with
  | 0 => .array .int
  | _ => .int
theorem nmX1 : ∀ a, a < 2 → ∀ b, b < 2 → a ≠ b → (TX1 a).2.1 ≠ (TX1 b).2.1 := by decide +kernel
theorem tyX1_ok : ∀ k, k < 2 → parseFieldDescriptor (TX1 k).2.2.1 = some (tyX1 k) := by decide +kernel
abbrev cX1_init : ByteArray := prog_3_method_1_code
def yX1_init : MethodName := ⟨RX1, "<init>", "()V"⟩
abbrev cX1_firstOf : ByteArray := prog_3_method_2_code
def yX1_firstOf : MethodName := ⟨RX1, "firstOf", "(I)I"⟩
abbrev cX1_prepare : ByteArray := prog_3_method_3_code
def yX1_prepare : MethodName := ⟨RX1, "prepare", "(I)V"⟩
abbrev cX1_at : ByteArray := prog_3_method_4_code
def yX1_at : MethodName := ⟨RX1, "at", "(III)J"⟩
abbrev cX1_fill : ByteArray := prog_3_method_5_code
def yX1_fill : MethodName := ⟨RX1, "fill", "(I)V"⟩
abbrev cX1_waysByRank : ByteArray := prog_3_method_6_code
def yX1_waysByRank : MethodName := ⟨RX1, "waysByRank", "(III)J"⟩
abbrev cX1_waysByCrank : ByteArray := prog_3_method_7_code
def yX1_waysByCrank : MethodName := ⟨RX1, "waysByCrank", "(III)J"⟩
abbrev cX1_withoutOnes : ByteArray := prog_3_method_8_code
def yX1_withoutOnes : MethodName := ⟨RX1, "withoutOnes", "(II)J"⟩
abbrev cX1_withOnes : ByteArray := prog_3_method_9_code
def yX1_withOnes : MethodName := ⟨RX1, "withOnes", "(III)J"⟩
def RX2 : String := "PartitionPress$Counter"
def TX2 : u_T := fun k => match k with
  | 0 => ("PartitionPress$Counter", "table", "LPartitionPress$Table;", true)
  | 1 => ("PartitionPress$Counter", "box", "LPartitionPress$Box;", true)
  | 2 => ("PartitionPress$Counter", "product", "LPartitionPress$Product;", true)
  | 3 => ("PartitionPress$Counter", "law", "LPartitionPress$Law;", false)
  | 4 => ("PartitionPress$Counter", "rest", "I", false)
  | 5 => ("PartitionPress$Counter", "placed", "I", false)
  | 6 => ("PartitionPress$Counter", "latest", "I", false)
  | _ => ("PartitionPress$Counter", "like", "I", false)
def tyX2 : Nat → FieldType := fun k => match k with
  | 0 => .object "PartitionPress$Table"
  | 1 => .object "PartitionPress$Box"
  | 2 => .object "PartitionPress$Product"
  | 3 => .object "PartitionPress$Law"
  | 4 => .int
  | 5 => .int
  | 6 => .int
  | _ => .int
theorem nmX2 : ∀ a, a < 8 → ∀ b, b < 8 → a ≠ b → (TX2 a).2.1 ≠ (TX2 b).2.1 := by decide +kernel
theorem tyX2_ok : ∀ k, k < 8 → parseFieldDescriptor (TX2 k).2.2.1 = some (tyX2 k) := by decide +kernel
abbrev cX2_init : ByteArray := prog_4_method_1_code
def yX2_init : MethodName := ⟨RX2, "<init>", "()V"⟩
abbrev cX2_forget : ByteArray := prog_4_method_2_code
def yX2_forget : MethodName := ⟨RX2, "forget", "(LPartitionPress$Law;)V"⟩
abbrev cX2_waysOf : ByteArray := prog_4_method_3_code
def yX2_waysOf : MethodName := ⟨RX2, "waysOf", "(LPartitionPress$Law;I)J"⟩
abbrev cX2_learn : ByteArray := prog_4_method_4_code
def yX2_learn : MethodName := ⟨RX2, "learn", "(LPartitionPress$Law;I)V"⟩
abbrev cX2_learnOwn : ByteArray := prog_4_method_5_code
def yX2_learnOwn : MethodName := ⟨RX2, "learnOwn", "(LPartitionPress$Law;)V"⟩
abbrev cX2_learnCores : ByteArray := prog_4_method_6_code
def yX2_learnCores : MethodName := ⟨RX2, "learnCores", "(LPartitionPress$Law;)V"⟩
abbrev cX2_waysAheadOf : ByteArray := prog_4_method_7_code
def yX2_waysAheadOf : MethodName := ⟨RX2, "waysAheadOf", "(LPartitionPress$Law;LPartitionPress$Sum;)J"⟩
abbrev cX2_find : ByteArray := prog_4_method_8_code
def yX2_find : MethodName := ⟨RX2, "find", "(LPartitionPress$Law;IJLPartitionPress$Sum;)V"⟩
abbrev cX2_start : ByteArray := prog_4_method_9_code
def yX2_start : MethodName := ⟨RX2, "start", "(LPartitionPress$Law;I)V"⟩
abbrev cX2_step : ByteArray := prog_4_method_10_code
def yX2_step : MethodName := ⟨RX2, "step", "(I)V"⟩
abbrev cX2_greatest : ByteArray := prog_4_method_11_code
def yX2_greatest : MethodName := ⟨RX2, "greatest", "()I"⟩
abbrev cX2_waysOnWith : ByteArray := prog_4_method_12_code
def yX2_waysOnWith : MethodName := ⟨RX2, "waysOnWith", "(I)J"⟩
abbrev cX2_waysOnWithLike : ByteArray := prog_4_method_13_code
def yX2_waysOnWithLike : MethodName := ⟨RX2, "waysOnWithLike", "(I)J"⟩
def RX3 : String := "PartitionPress$Filler"
def TX3 : u_T := fun k => match k with
  | 0 => ("PartitionPress$Filler", "shape", "LPartitionPress$Sum;", true)
  | 1 => ("PartitionPress$Filler", "powers", "[I", true)
  | _ => ("PartitionPress$Filler", "left", "J", false)
def tyX3 : Nat → FieldType := fun k => match k with
  | 0 => .object "PartitionPress$Sum"
  | 1 => .array .int
  | _ => .long
theorem nmX3 : ∀ a, a < 3 → ∀ b, b < 3 → a ≠ b → (TX3 a).2.1 ≠ (TX3 b).2.1 := by decide +kernel
theorem tyX3_ok : ∀ k, k < 3 → parseFieldDescriptor (TX3 k).2.2.1 = some (tyX3 k) := by decide +kernel
abbrev cX3_init : ByteArray := prog_5_method_1_code
def yX3_init : MethodName := ⟨RX3, "<init>", "()V"⟩
abbrev cX3_waysToFill : ByteArray := prog_5_method_2_code
def yX3_waysToFill : MethodName := ⟨RX3, "waysToFill", "(LPartitionPress$Sum;)J"⟩
abbrev cX3_breakToPrimes : ByteArray := prog_5_method_3_code
def yX3_breakToPrimes : MethodName := ⟨RX3, "breakToPrimes", "(I)V"⟩
abbrev cX3_leastDivisor : ByteArray := prog_5_method_4_code
def yX3_leastDivisor : MethodName := ⟨RX3, "leastDivisor", "(I)I"⟩
abbrev cX3_rowOf : ByteArray := prog_5_method_5_code
def yX3_rowOf : MethodName := ⟨RX3, "rowOf", "(LPartitionPress$Sum;JI)I"⟩
abbrev cX3_takeGreatest : ByteArray := prog_5_method_6_code
def yX3_takeGreatest : MethodName := ⟨RX3, "takeGreatest", "()I"⟩
def RX4 : String := "PartitionPress$Law"
def TX4 : u_T := fun k => match k with
  | 0 => ("PartitionPress$Law", "ways", "[J", true)
  | 1 => ("PartitionPress$Law", "known", "I", false)
  | 2 => ("PartitionPress$Law", "kind", "I", false)
  | 3 => ("PartitionPress$Law", "modulus", "I", false)
  | 4 => ("PartitionPress$Law", "set", "I", false)
  | 5 => ("PartitionPress$Law", "times", "I", false)
  | 6 => ("PartitionPress$Law", "gap", "I", false)
  | 7 => ("PartitionPress$Law", "extra", "I", false)
  | 8 => ("PartitionPress$Law", "least", "I", false)
  | 9 => ("PartitionPress$Law", "most", "I", false)
  | 10 => ("PartitionPress$Law", "top", "I", false)
  | _ => ("PartitionPress$Law", "hookLength", "I", false)
def tyX4 : Nat → FieldType := fun k => match k with
  | 0 => .array .long
  | 1 => .int
  | 2 => .int
  | 3 => .int
  | 4 => .int
  | 5 => .int
  | 6 => .int
  | 7 => .int
  | 8 => .int
  | 9 => .int
  | 10 => .int
  | _ => .int
theorem nmX4 : ∀ a, a < 12 → ∀ b, b < 12 → a ≠ b → (TX4 a).2.1 ≠ (TX4 b).2.1 := by decide +kernel
theorem tyX4_ok : ∀ k, k < 12 → parseFieldDescriptor (TX4 k).2.2.1 = some (tyX4 k) := by decide +kernel
abbrev cX4_init : ByteArray := prog_6_method_1_code
def yX4_init : MethodName := ⟨RX4, "<init>", "()V"⟩
abbrev cX4_canBe : ByteArray := prog_6_method_2_code
def yX4_canBe : MethodName := ⟨RX4, "canBe", "(IIIII)Z"⟩
abbrev cX4_become : ByteArray := prog_6_method_3_code
def yX4_become : MethodName := ⟨RX4, "become", "(IIIII)V"⟩
abbrev cX4_covers : ByteArray := prog_6_method_4_code
def yX4_covers : MethodName := ⟨RX4, "covers", "(I)Z"⟩
abbrev cX4_isRanked : ByteArray := prog_6_method_5_code
def yX4_isRanked : MethodName := ⟨RX4, "isRanked", "()Z"⟩
abbrev cX4_hasRest : ByteArray := prog_6_method_6_code
def yX4_hasRest : MethodName := ⟨RX4, "hasRest", "(I)Z"⟩
abbrev cX4_gapBehind : ByteArray := prog_6_method_7_code
def yX4_gapBehind : MethodName := ⟨RX4, "gapBehind", "(I)I"⟩
abbrev cX4_firstClash : ByteArray := prog_6_method_8_code
def yX4_firstClash : MethodName := ⟨RX4, "firstClash", "(LPartitionPress$Sum;LPartitionPress$Sum;)I"⟩
abbrev cX4_firstOfWrongParts : ByteArray := prog_6_method_9_code
def yX4_firstOfWrongParts : MethodName := ⟨RX4, "firstOfWrongParts", "(LPartitionPress$Sum;)I"⟩
abbrev cX4_firstOfWrongGaps : ByteArray := prog_6_method_10_code
def yX4_firstOfWrongGaps : MethodName := ⟨RX4, "firstOfWrongGaps", "(LPartitionPress$Sum;)I"⟩
abbrev cX4_firstOfMany : ByteArray := prog_6_method_11_code
def yX4_firstOfMany : MethodName := ⟨RX4, "firstOfMany", "(LPartitionPress$Sum;)I"⟩
abbrev cX4_firstNotAlike : ByteArray := prog_6_method_12_code
def yX4_firstNotAlike : MethodName := ⟨RX4, "firstNotAlike", "(LPartitionPress$Sum;LPartitionPress$Sum;)I"⟩
def RX5 : String := "PartitionPress$Leads"
def TX5 : u_T := fun k => match k with
  | 0 => ("PartitionPress$Leads", "times", "[I", true)
  | 1 => ("PartitionPress$Leads", "arms", "[I", true)
  | 2 => ("PartitionPress$Leads", "legs", "[I", true)
  | _ => ("PartitionPress$Leads", "aside", "LPartitionPress$Sum;", true)
def tyX5 : Nat → FieldType := fun k => match k with
  | 0 => .array .int
  | 1 => .array .int
  | 2 => .array .int
  | _ => .object "PartitionPress$Sum"
theorem nmX5 : ∀ a, a < 4 → ∀ b, b < 4 → a ≠ b → (TX5 a).2.1 ≠ (TX5 b).2.1 := by decide +kernel
theorem tyX5_ok : ∀ k, k < 4 → parseFieldDescriptor (TX5 k).2.2.1 = some (tyX5 k) := by decide +kernel
abbrev cX5_init : ByteArray := prog_7_method_1_code
def yX5_init : MethodName := ⟨RX5, "<init>", "()V"⟩
abbrev cX5_canBe : ByteArray := prog_7_method_2_code
def yX5_canBe : MethodName := ⟨RX5, "canBe", "(II)Z"⟩
abbrev cX5_leadFrom : ByteArray := prog_7_method_3_code
def yX5_leadFrom : MethodName := ⟨RX5, "leadFrom", "(IIZLPartitionPress$Sum;)Z"⟩
abbrev cX5_make : ByteArray := prog_7_method_4_code
def yX5_make : MethodName := ⟨RX5, "make", "(IIZLPartitionPress$Sum;LPartitionPress$Sum;)V"⟩
abbrev cX5_hasTimes : ByteArray := prog_7_method_5_code
def yX5_hasTimes : MethodName := ⟨RX5, "hasTimes", "(LPartitionPress$Sum;I)Z"⟩
abbrev cX5_hasMultiple : ByteArray := prog_7_method_6_code
def yX5_hasMultiple : MethodName := ⟨RX5, "hasMultiple", "(LPartitionPress$Sum;I)Z"⟩
abbrev cX5_isOwn : ByteArray := prog_7_method_7_code
def yX5_isOwn : MethodName := ⟨RX5, "isOwn", "(LPartitionPress$Sum;)Z"⟩
abbrev cX5_regroup : ByteArray := prog_7_method_8_code
def yX5_regroup : MethodName := ⟨RX5, "regroup", "(IZLPartitionPress$Sum;LPartitionPress$Sum;)V"⟩
abbrev cX5_cutMultiples : ByteArray := prog_7_method_9_code
def yX5_cutMultiples : MethodName := ⟨RX5, "cutMultiples", "(I)V"⟩
abbrev cX5_putLikeTogether : ByteArray := prog_7_method_10_code
def yX5_putLikeTogether : MethodName := ⟨RX5, "putLikeTogether", "(I)V"⟩
abbrev cX5_hooksToOwn : ByteArray := prog_7_method_11_code
def yX5_hooksToOwn : MethodName := ⟨RX5, "hooksToOwn", "(LPartitionPress$Sum;LPartitionPress$Sum;)V"⟩
abbrev cX5_ownToHooks : ByteArray := prog_7_method_12_code
def yX5_ownToHooks : MethodName := ⟨RX5, "ownToHooks", "(LPartitionPress$Sum;LPartitionPress$Sum;)V"⟩
abbrev cX5_draw : ByteArray := prog_7_method_13_code
def yX5_draw : MethodName := ⟨RX5, "draw", "(ILPartitionPress$Sum;)V"⟩
abbrev cX5_columnsDownTo : ByteArray := prog_7_method_14_code
def yX5_columnsDownTo : MethodName := ⟨RX5, "columnsDownTo", "(II)I"⟩
abbrev cX5_bend : ByteArray := prog_7_method_15_code
def yX5_bend : MethodName := ⟨RX5, "bend", "(LPartitionPress$Sum;LPartitionPress$Sum;)V"⟩
abbrev cX5_halvesFrom : ByteArray := prog_7_method_16_code
def yX5_halvesFrom : MethodName := ⟨RX5, "halvesFrom", "(LPartitionPress$Sum;I)I"⟩
abbrev cX5_unbend : ByteArray := prog_7_method_17_code
def yX5_unbend : MethodName := ⟨RX5, "unbend", "(LPartitionPress$Sum;LPartitionPress$Sum;)V"⟩
abbrev cX5_move : ByteArray := prog_7_method_18_code
def yX5_move : MethodName := ⟨RX5, "move", "(LPartitionPress$Sum;LPartitionPress$Sum;)V"⟩
abbrev cX5_firstRun : ByteArray := prog_7_method_19_code
def yX5_firstRun : MethodName := ⟨RX5, "firstRun", "(LPartitionPress$Sum;)I"⟩
abbrev cX5_shiftFirst : ByteArray := prog_7_method_20_code
def yX5_shiftFirst : MethodName := ⟨RX5, "shiftFirst", "(LPartitionPress$Sum;IIILPartitionPress$Sum;)V"⟩
def RX6 : String := "PartitionPress$Notes"
def TX6 : u_T := fun k => match k with
  | 0 => ("PartitionPress$Notes", "sums", "[LPartitionPress$Sum;", true)
  | 1 => ("PartitionPress$Notes", "sheets", "[I", true)
  | 2 => ("PartitionPress$Notes", "newest", "I", false)
  | _ => ("PartitionPress$Notes", "held", "I", false)
def tyX6 : Nat → FieldType := fun k => match k with
  | 0 => .array (.object "PartitionPress$Sum")
  | 1 => .array .int
  | 2 => .int
  | _ => .int
theorem nmX6 : ∀ a, a < 4 → ∀ b, b < 4 → a ≠ b → (TX6 a).2.1 ≠ (TX6 b).2.1 := by decide +kernel
theorem tyX6_ok : ∀ k, k < 4 → parseFieldDescriptor (TX6 k).2.2.1 = some (tyX6 k) := by decide +kernel
abbrev cX6_init : ByteArray := prog_8_method_1_code
def yX6_init : MethodName := ⟨RX6, "<init>", "()V"⟩
abbrev cX6_keep : ByteArray := prog_8_method_2_code
def yX6_keep : MethodName := ⟨RX6, "keep", "(ILPartitionPress$Sum;)V"⟩
abbrev cX6_newestSheet : ByteArray := prog_8_method_3_code
def yX6_newestSheet : MethodName := ⟨RX6, "newestSheet", "()I"⟩
abbrev cX6_newestSum : ByteArray := prog_8_method_4_code
def yX6_newestSum : MethodName := ⟨RX6, "newestSum", "()LPartitionPress$Sum;"⟩
abbrev cX6_drop : ByteArray := prog_8_method_5_code
def yX6_drop : MethodName := ⟨RX6, "drop", "()V"⟩
def RX7 : String := "PartitionPress$Product"
def TX7 : u_T := fun k => match k with
  | _ => ("PartitionPress$Product", "choices", "[J", true)
def tyX7 : Nat → FieldType := fun k => match k with
  | _ => .array .long
theorem nmX7 : ∀ a, a < 1 → ∀ b, b < 1 → a ≠ b → (TX7 a).2.1 ≠ (TX7 b).2.1 := by decide +kernel
theorem tyX7_ok : ∀ k, k < 1 → parseFieldDescriptor (TX7 k).2.2.1 = some (tyX7 k) := by decide +kernel
abbrev cX7_init : ByteArray := prog_9_method_1_code
def yX7_init : MethodName := ⟨RX7, "<init>", "()V"⟩
abbrev cX7_takeFactors : ByteArray := prog_9_method_2_code
def yX7_takeFactors : MethodName := ⟨RX7, "takeFactors", "([JIII)V"⟩
abbrev cX7_choose : ByteArray := prog_9_method_3_code
def yX7_choose : MethodName := ⟨RX7, "choose", "(I)V"⟩
abbrev cX7_timesPower : ByteArray := prog_9_method_4_code
def yX7_timesPower : MethodName := ⟨RX7, "timesPower", "([JII)V"⟩
abbrev cX7_overPower : ByteArray := prog_9_method_5_code
def yX7_overPower : MethodName := ⟨RX7, "overPower", "([JII)V"⟩
abbrev cX7_broughtTo : ByteArray := prog_9_method_6_code
def yX7_broughtTo : MethodName := ⟨RX7, "broughtTo", "([JIII)J"⟩
def RX8 : String := "PartitionPress$Rows"
def TX8 : u_T := fun k => match k with
  | _ => ("", "", "", false)
def tyX8 : Nat → FieldType := fun k => match k with
  | _ => .int
theorem nmX8 : ∀ a, a < 0 → ∀ b, b < 0 → a ≠ b → (TX8 a).2.1 ≠ (TX8 b).2.1 := by decide +kernel
theorem tyX8_ok : ∀ k, k < 0 → parseFieldDescriptor (TX8 k).2.2.1 = some (tyX8 k) := by decide +kernel
abbrev cX8_setZero : ByteArray := prog_10_method_2_code
def yX8_setZero : MethodName := ⟨RX8, "setZero", "([J)V"⟩
abbrev cX8_setOne : ByteArray := prog_10_method_3_code
def yX8_setOne : MethodName := ⟨RX8, "setOne", "([J)V"⟩
abbrev cX8_setSigns : ByteArray := prog_10_method_4_code
def yX8_setSigns : MethodName := ⟨RX8, "setSigns", "([JII)V"⟩
abbrev cX8_multiply : ByteArray := prog_10_method_5_code
def yX8_multiply : MethodName := ⟨RX8, "multiply", "([J[J)V"⟩
abbrev cX8_addTimes : ByteArray := prog_10_method_6_code
def yX8_addTimes : MethodName := ⟨RX8, "addTimes", "([J[JJ)V"⟩
abbrev cX8_moveUp : ByteArray := prog_10_method_7_code
def yX8_moveUp : MethodName := ⟨RX8, "moveUp", "([JI)V"⟩
def RX9 : String := "PartitionPress$Sum"
def TX9 : u_T := fun k => match k with
  | 0 => ("PartitionPress$Sum", "parts", "[I", true)
  | 1 => ("PartitionPress$Sum", "size", "I", false)
  | _ => ("PartitionPress$Sum", "total", "I", false)
def tyX9 : Nat → FieldType := fun k => match k with
  | 0 => .array .int
  | 1 => .int
  | _ => .int
theorem nmX9 : ∀ a, a < 3 → ∀ b, b < 3 → a ≠ b → (TX9 a).2.1 ≠ (TX9 b).2.1 := by decide +kernel
theorem tyX9_ok : ∀ k, k < 3 → parseFieldDescriptor (TX9 k).2.2.1 = some (tyX9 k) := by decide +kernel
abbrev cX9_init : ByteArray := prog_11_method_1_code
def yX9_init : MethodName := ⟨RX9, "<init>", "()V"⟩
abbrev cX9_empty : ByteArray := prog_11_method_2_code
def yX9_empty : MethodName := ⟨RX9, "empty", "()V"⟩
abbrev cX9_add : ByteArray := prog_11_method_3_code
def yX9_add : MethodName := ⟨RX9, "add", "(I)V"⟩
abbrev cX9_at : ByteArray := prog_11_method_4_code
def yX9_at : MethodName := ⟨RX9, "at", "(I)I"⟩
abbrev cX9_take : ByteArray := prog_11_method_5_code
def yX9_take : MethodName := ⟨RX9, "take", "(LPartitionPress$Sum;)V"⟩
abbrev cX9_takeFirst : ByteArray := prog_11_method_6_code
def yX9_takeFirst : MethodName := ⟨RX9, "takeFirst", "(LPartitionPress$Sum;I)V"⟩
abbrev cX9_turn : ByteArray := prog_11_method_7_code
def yX9_turn : MethodName := ⟨RX9, "turn", "(LPartitionPress$Sum;)V"⟩
abbrev cX9_follow : ByteArray := prog_11_method_8_code
def yX9_follow : MethodName := ⟨RX9, "follow", "(LPartitionPress$Sum;)V"⟩
abbrev cX9_hookAt : ByteArray := prog_11_method_9_code
def yX9_hookAt : MethodName := ⟨RX9, "hookAt", "(II)I"⟩
abbrev cX9_firstRowWithHook : ByteArray := prog_11_method_10_code
def yX9_firstRowWithHook : MethodName := ⟨RX9, "firstRowWithHook", "(I)I"⟩
abbrev cX9_side : ByteArray := prog_11_method_11_code
def yX9_side : MethodName := ⟨RX9, "side", "()I"⟩
abbrev cX9_firstLessSize : ByteArray := prog_11_method_12_code
def yX9_firstLessSize : MethodName := ⟨RX9, "firstLessSize", "()I"⟩
abbrev cX9_crank : ByteArray := prog_11_method_13_code
def yX9_crank : MethodName := ⟨RX9, "crank", "()I"⟩
abbrev cX9_unlike : ByteArray := prog_11_method_14_code
def yX9_unlike : MethodName := ⟨RX9, "unlike", "()I"⟩
abbrev cX9_corners : ByteArray := prog_11_method_15_code
def yX9_corners : MethodName := ⟨RX9, "corners", "()I"⟩
abbrev cX9_odd : ByteArray := prog_11_method_16_code
def yX9_odd : MethodName := ⟨RX9, "odd", "()I"⟩
abbrev cX9_isUnlike : ByteArray := prog_11_method_17_code
def yX9_isUnlike : MethodName := ⟨RX9, "isUnlike", "()Z"⟩
abbrev cX9_isOdd : ByteArray := prog_11_method_18_code
def yX9_isOdd : MethodName := ⟨RX9, "isOdd", "()Z"⟩
abbrev cX9_isCorner : ByteArray := prog_11_method_19_code
def yX9_isCorner : MethodName := ⟨RX9, "isCorner", "(I)Z"⟩
abbrev cX9_shrink : ByteArray := prog_11_method_20_code
def yX9_shrink : MethodName := ⟨RX9, "shrink", "(I)V"⟩
abbrev cX9_grow : ByteArray := prog_11_method_21_code
def yX9_grow : MethodName := ⟨RX9, "grow", "(I)V"⟩
def RX10 : String := "PartitionPress$Table"
def TX10 : u_T := fun k => match k with
  | 0 => ("PartitionPress$Table", "ways", "[J", true)
  | 1 => ("PartitionPress$Table", "law", "LPartitionPress$Law;", false)
  | _ => ("PartitionPress$Table", "filled", "I", false)
def tyX10 : Nat → FieldType := fun k => match k with
  | 0 => .array .long
  | 1 => .object "PartitionPress$Law"
  | _ => .int
theorem nmX10 : ∀ a, a < 3 → ∀ b, b < 3 → a ≠ b → (TX10 a).2.1 ≠ (TX10 b).2.1 := by decide +kernel
theorem tyX10_ok : ∀ k, k < 3 → parseFieldDescriptor (TX10 k).2.2.1 = some (tyX10 k) := by decide +kernel
abbrev cX10_init : ByteArray := prog_12_method_1_code
def yX10_init : MethodName := ⟨RX10, "<init>", "()V"⟩
abbrev cX10_forget : ByteArray := prog_12_method_2_code
def yX10_forget : MethodName := ⟨RX10, "forget", "(LPartitionPress$Law;)V"⟩
abbrev cX10_prepare : ByteArray := prog_12_method_3_code
def yX10_prepare : MethodName := ⟨RX10, "prepare", "(LPartitionPress$Law;I)V"⟩
abbrev cX10_at : ByteArray := prog_12_method_4_code
def yX10_at : MethodName := ⟨RX10, "at", "(II)J"⟩
abbrev cX10_fillRow : ByteArray := prog_12_method_5_code
def yX10_fillRow : MethodName := ⟨RX10, "fillRow", "(LPartitionPress$Law;I)V"⟩
abbrev cX10_beginningWith : ByteArray := prog_12_method_6_code
def yX10_beginningWith : MethodName := ⟨RX10, "beginningWith", "(LPartitionPress$Law;II)J"⟩
def RX11 : String := "PartitionPress"
def TX11 : u_T := fun k => match k with
  | 0 => ("PartitionPress", "sheets", "[LPartitionPress$Sum;", true)
  | 1 => ("PartitionPress", "laws", "[LPartitionPress$Law;", true)
  | 2 => ("PartitionPress", "rows", "[[J", true)
  | 3 => ("PartitionPress", "notes", "LPartitionPress$Notes;", true)
  | 4 => ("PartitionPress", "made", "LPartitionPress$Sum;", true)
  | 5 => ("PartitionPress", "turned", "LPartitionPress$Sum;", true)
  | 6 => ("PartitionPress", "counter", "LPartitionPress$Counter;", true)
  | 7 => ("PartitionPress", "leads", "LPartitionPress$Leads;", true)
  | 8 => ("PartitionPress", "abacus", "LPartitionPress$Abacus;", true)
  | 9 => ("PartitionPress", "filler", "LPartitionPress$Filler;", true)
  | _ => ("PartitionPress", "product", "LPartitionPress$Product;", true)
def tyX11 : Nat → FieldType := fun k => match k with
  | 0 => .array (.object "PartitionPress$Sum")
  | 1 => .array (.object "PartitionPress$Law")
  | 2 => .array (.array .long)
  | 3 => .object "PartitionPress$Notes"
  | 4 => .object "PartitionPress$Sum"
  | 5 => .object "PartitionPress$Sum"
  | 6 => .object "PartitionPress$Counter"
  | 7 => .object "PartitionPress$Leads"
  | 8 => .object "PartitionPress$Abacus"
  | 9 => .object "PartitionPress$Filler"
  | _ => .object "PartitionPress$Product"
theorem nmX11 : ∀ a, a < 11 → ∀ b, b < 11 → a ≠ b → (TX11 a).2.1 ≠ (TX11 b).2.1 := by decide +kernel
theorem tyX11_ok : ∀ k, k < 11 → parseFieldDescriptor (TX11 k).2.2.1 = some (tyX11 k) := by decide +kernel
abbrev cX11_init : ByteArray := prog_1_method_1_code
def yX11_init : MethodName := ⟨RX11, "<init>", "()V"⟩
abbrev cX11_part : ByteArray := prog_1_method_2_code
def yX11_part : MethodName := ⟨RX11, "part", "(II)I"⟩
abbrev cX11_clear : ByteArray := prog_1_method_3_code
def yX11_clear : MethodName := ⟨RX11, "clear", "(I)I"⟩
abbrev cX11_copy : ByteArray := prog_1_method_4_code
def yX11_copy : MethodName := ⟨RX11, "copy", "(II)I"⟩
abbrev cX11_sheet : ByteArray := prog_1_method_5_code
def yX11_sheet : MethodName := ⟨RX11, "sheet", "(II)I"⟩
abbrev cX11_hook : ByteArray := prog_1_method_6_code
def yX11_hook : MethodName := ⟨RX11, "hook", "(III)I"⟩
abbrev cX11_next : ByteArray := prog_1_method_7_code
def yX11_next : MethodName := ⟨RX11, "next", "(I)I"⟩
abbrev cX11_undo : ByteArray := prog_1_method_8_code
def yX11_undo : MethodName := ⟨RX11, "undo", "()I"⟩
abbrev cX11_law : ByteArray := prog_1_method_9_code
def yX11_law : MethodName := ⟨RX11, "law", "(IIIIII)I"⟩
abbrev cX11_clash : ByteArray := prog_1_method_10_code
def yX11_clash : MethodName := ⟨RX11, "clash", "(II)I"⟩
abbrev cX11_count : ByteArray := prog_1_method_11_code
def yX11_count : MethodName := ⟨RX11, "count", "(II)J"⟩
abbrev cX11_rank : ByteArray := prog_1_method_12_code
def yX11_rank : MethodName := ⟨RX11, "rank", "(II)J"⟩
abbrev cX11_tell : ByteArray := prog_1_method_13_code
def yX11_tell : MethodName := ⟨RX11, "tell", "(IIJI)I"⟩
abbrev cX11_lead : ByteArray := prog_1_method_14_code
def yX11_lead : MethodName := ⟨RX11, "lead", "(IIII)I"⟩
abbrev cX11_back : ByteArray := prog_1_method_15_code
def yX11_back : MethodName := ⟨RX11, "back", "(IIII)I"⟩
abbrev cX11_core : ByteArray := prog_1_method_16_code
def yX11_core : MethodName := ⟨RX11, "core", "(III)I"⟩
abbrev cX11_quotient : ByteArray := prog_1_method_17_code
def yX11_quotient : MethodName := ⟨RX11, "quotient", "(IIII)I"⟩
abbrev cX11_join : ByteArray := prog_1_method_18_code
def yX11_join : MethodName := ⟨RX11, "join", "(III)I"⟩
abbrev cX11_peel : ByteArray := prog_1_method_19_code
def yX11_peel : MethodName := ⟨RX11, "peel", "(II)I"⟩
abbrev cX11_fillings : ByteArray := prog_1_method_20_code
def yX11_fillings : MethodName := ⟨RX11, "fillings", "(I)J"⟩
abbrev cX11_filling : ByteArray := prog_1_method_21_code
def yX11_filling : MethodName := ⟨RX11, "filling", "(IJI)I"⟩
abbrev cX11_heap : ByteArray := prog_1_method_22_code
def yX11_heap : MethodName := ⟨RX11, "heap", "(IIII)J"⟩
abbrev cX11_one : ByteArray := prog_1_method_23_code
def yX11_one : MethodName := ⟨RX11, "one", "(I)I"⟩
abbrev cX11_factors : ByteArray := prog_1_method_24_code
def yX11_factors : MethodName := ⟨RX11, "factors", "(IIII)I"⟩
abbrev cX11_signs : ByteArray := prog_1_method_25_code
def yX11_signs : MethodName := ⟨RX11, "signs", "(III)I"⟩
abbrev cX11_counts : ByteArray := prog_1_method_26_code
def yX11_counts : MethodName := ⟨RX11, "counts", "(II)I"⟩
abbrev cX11_combine : ByteArray := prog_1_method_27_code
def yX11_combine : MethodName := ⟨RX11, "combine", "(III)I"⟩
abbrev cX11_series : ByteArray := prog_1_method_28_code
def yX11_series : MethodName := ⟨RX11, "series", "(II)J"⟩
abbrev cX11_same : ByteArray := prog_1_method_29_code
def yX11_same : MethodName := ⟨RX11, "same", "(II)I"⟩
abbrev cX11_told : ByteArray := prog_1_method_30_code
def yX11_told : MethodName := ⟨RX11, "told", "(I)I"⟩
abbrev cX11_isWithin : ByteArray := prog_1_method_31_code
def yX11_isWithin : MethodName := ⟨RX11, "isWithin", "(III)Z"⟩
abbrev cX11_isSheet : ByteArray := prog_1_method_32_code
def yX11_isSheet : MethodName := ⟨RX11, "isSheet", "(I)Z"⟩
abbrev cX11_isLaw : ByteArray := prog_1_method_33_code
def yX11_isLaw : MethodName := ⟨RX11, "isLaw", "(I)Z"⟩
abbrev cX11_isSeries : ByteArray := prog_1_method_34_code
def yX11_isSeries : MethodName := ⟨RX11, "isSeries", "(I)Z"⟩
abbrev cX11_isHookLength : ByteArray := prog_1_method_35_code
def yX11_isHookLength : MethodName := ⟨RX11, "isHookLength", "(I)Z"⟩
abbrev cX11_putOn : ByteArray := prog_1_method_36_code
def yX11_putOn : MethodName := ⟨RX11, "putOn", "(I)I"⟩
abbrev cX11_firstClash : ByteArray := prog_1_method_37_code
def yX11_firstClash : MethodName := ⟨RX11, "firstClash", "(LPartitionPress$Law;LPartitionPress$Sum;)I"⟩
abbrev cX11_travel : ByteArray := prog_1_method_38_code
def yX11_travel : MethodName := ⟨RX11, "travel", "(IIZII)I"⟩
def RX12 : String := "PartitionPressModel"
def TX12 : u_T := fun k => match k with
  | 0 => ("PartitionPressModel", "law", "[I", true)
  | 1 => ("PartitionPressModel", "parts", "[I", true)
  | 2 => ("PartitionPressModel", "many", "[I", true)
  | 3 => ("PartitionPressModel", "noted", "[I", true)
  | 4 => ("PartitionPressModel", "notedMany", "[I", true)
  | 5 => ("PartitionPressModel", "notedSheet", "[I", true)
  | 6 => ("PartitionPressModel", "notes", "I", false)
  | 7 => ("PartitionPressModel", "table", "[J", true)
  | 8 => ("PartitionPressModel", "sums", "[J", true)
  | 9 => ("PartitionPressModel", "tableKind", "I", false)
  | 10 => ("PartitionPressModel", "t1", "I", false)
  | 11 => ("PartitionPressModel", "t2", "I", false)
  | 12 => ("PartitionPressModel", "t3", "I", false)
  | 13 => ("PartitionPressModel", "t4", "I", false)
  | 14 => ("PartitionPressModel", "box", "[J", true)
  | 15 => ("PartitionPressModel", "isBox", "Z", false)
  | 16 => ("PartitionPressModel", "own", "[J", true)
  | 17 => ("PartitionPressModel", "often", "[I", true)
  | 18 => ("PartitionPressModel", "right", "[I", true)
  | 19 => ("PartitionPressModel", "tall", "[I", true)
  | 20 => ("PartitionPressModel", "bead", "[Z", true)
  | 21 => ("PartitionPressModel", "beads", "I", false)
  | 22 => ("PartitionPressModel", "prime", "[I", true)
  | 23 => ("PartitionPressModel", "twos", "[J", true)
  | 24 => ("PartitionPressModel", "isTwos", "Z", false)
  | 25 => ("PartitionPressModel", "rows", "[J", true)
  | _ => ("PartitionPressModel", "made", "[J", true)
def tyX12 : Nat → FieldType := fun k => match k with
  | 0 => .array .int
  | 1 => .array .int
  | 2 => .array .int
  | 3 => .array .int
  | 4 => .array .int
  | 5 => .array .int
  | 6 => .int
  | 7 => .array .long
  | 8 => .array .long
  | 9 => .int
  | 10 => .int
  | 11 => .int
  | 12 => .int
  | 13 => .int
  | 14 => .array .long
  | 15 => .boolean
  | 16 => .array .long
  | 17 => .array .int
  | 18 => .array .int
  | 19 => .array .int
  | 20 => .array .boolean
  | 21 => .int
  | 22 => .array .int
  | 23 => .array .long
  | 24 => .boolean
  | 25 => .array .long
  | _ => .array .long
theorem nmX12 : ∀ a, a < 27 → ∀ b, b < 27 → a ≠ b → (TX12 a).2.1 ≠ (TX12 b).2.1 := by decide +kernel
theorem tyX12_ok : ∀ k, k < 27 → parseFieldDescriptor (TX12 k).2.2.1 = some (tyX12 k) := by decide +kernel
abbrev cX12_init : ByteArray := prog_14_method_1_code
def yX12_init : MethodName := ⟨RX12, "<init>", "()V"⟩
abbrev cX12_in : ByteArray := prog_14_method_2_code
def yX12_in : MethodName := ⟨RX12, "in", "(JJJ)Z"⟩
abbrev cX12_isSheet : ByteArray := prog_14_method_3_code
def yX12_isSheet : MethodName := ⟨RX12, "isSheet", "(I)Z"⟩
abbrev cX12_at : ByteArray := prog_14_method_4_code
def yX12_at : MethodName := ⟨RX12, "at", "(II)I"⟩
abbrev cX12_size : ByteArray := prog_14_method_5_code
def yX12_size : MethodName := ⟨RX12, "size", "(I)I"⟩
abbrev cX12_empty : ByteArray := prog_14_method_6_code
def yX12_empty : MethodName := ⟨RX12, "empty", "(I)V"⟩
abbrev cX12_push : ByteArray := prog_14_method_7_code
def yX12_push : MethodName := ⟨RX12, "push", "(II)V"⟩
abbrev cX12_give : ByteArray := prog_14_method_8_code
def yX12_give : MethodName := ⟨RX12, "give", "(II)V"⟩
abbrev cX12_note : ByteArray := prog_14_method_9_code
def yX12_note : MethodName := ⟨RX12, "note", "(I)V"⟩
abbrev cX12_set : ByteArray := prog_14_method_10_code
def yX12_set : MethodName := ⟨RX12, "set", "(I)V"⟩
abbrev cX12_undo : ByteArray := prog_14_method_11_code
def yX12_undo : MethodName := ⟨RX12, "undo", "()I"⟩
abbrev cX12_part : ByteArray := prog_14_method_12_code
def yX12_part : MethodName := ⟨RX12, "part", "(II)I"⟩
abbrev cX12_clear : ByteArray := prog_14_method_13_code
def yX12_clear : MethodName := ⟨RX12, "clear", "(I)I"⟩
abbrev cX12_copy : ByteArray := prog_14_method_14_code
def yX12_copy : MethodName := ⟨RX12, "copy", "(II)I"⟩
abbrev cX12_column : ByteArray := prog_14_method_15_code
def yX12_column : MethodName := ⟨RX12, "column", "(II)I"⟩
abbrev cX12_rankOf : ByteArray := prog_14_method_16_code
def yX12_rankOf : MethodName := ⟨RX12, "rankOf", "(I)I"⟩
abbrev cX12_crankOf : ByteArray := prog_14_method_17_code
def yX12_crankOf : MethodName := ⟨RX12, "crankOf", "(I)I"⟩
abbrev cX12_sheet : ByteArray := prog_14_method_18_code
def yX12_sheet : MethodName := ⟨RX12, "sheet", "(II)I"⟩
abbrev cX12_hookOf : ByteArray := prog_14_method_19_code
def yX12_hookOf : MethodName := ⟨RX12, "hookOf", "(III)I"⟩
abbrev cX12_hook : ByteArray := prog_14_method_20_code
def yX12_hook : MethodName := ⟨RX12, "hook", "(III)I"⟩
abbrev cX12_next : ByteArray := prog_14_method_21_code
def yX12_next : MethodName := ⟨RX12, "next", "(I)I"⟩
abbrev cX12_law : ByteArray := prog_14_method_22_code
def yX12_law : MethodName := ⟨RX12, "law", "(IIIIII)I"⟩
abbrev cX12_kindOf : ByteArray := prog_14_method_23_code
def yX12_kindOf : MethodName := ⟨RX12, "kindOf", "(I)I"⟩
abbrev cX12_number : ByteArray := prog_14_method_24_code
def yX12_number : MethodName := ⟨RX12, "number", "(II)I"⟩
abbrev cX12_lets : ByteArray := prog_14_method_25_code
def yX12_lets : MethodName := ⟨RX12, "lets", "(II)Z"⟩
abbrev cX12_times : ByteArray := prog_14_method_26_code
def yX12_times : MethodName := ⟨RX12, "times", "(I)I"⟩
abbrev cX12_gap : ByteArray := prog_14_method_27_code
def yX12_gap : MethodName := ⟨RX12, "gap", "(II)I"⟩
abbrev cX12_clashOf : ByteArray := prog_14_method_28_code
def yX12_clashOf : MethodName := ⟨RX12, "clashOf", "(II)I"⟩
abbrev cX12_clash : ByteArray := prog_14_method_29_code
def yX12_clash : MethodName := ⟨RX12, "clash", "(II)I"⟩
abbrev cX12_isTable : ByteArray := prog_14_method_30_code
def yX12_isTable : MethodName := ⟨RX12, "isTable", "(I)Z"⟩
abbrev cX12_cell : ByteArray := prog_14_method_31_code
def yX12_cell : MethodName := ⟨RX12, "cell", "(II)J"⟩
abbrev cX12_make : ByteArray := prog_14_method_32_code
def yX12_make : MethodName := ⟨RX12, "make", "(I)V"⟩
abbrev cX12_makeBelow : ByteArray := prog_14_method_33_code
def yX12_makeBelow : MethodName := ⟨RX12, "makeBelow", "(I)V"⟩
abbrev cX12_makeFirsts : ByteArray := prog_14_method_34_code
def yX12_makeFirsts : MethodName := ⟨RX12, "makeFirsts", "(I)V"⟩
abbrev cX12_inBox : ByteArray := prog_14_method_35_code
def yX12_inBox : MethodName := ⟨RX12, "inBox", "(III)J"⟩
abbrev cX12_makeBox : ByteArray := prog_14_method_36_code
def yX12_makeBox : MethodName := ⟨RX12, "makeBox", "()V"⟩
abbrev cX12_makeOwn : ByteArray := prog_14_method_37_code
def yX12_makeOwn : MethodName := ⟨RX12, "makeOwn", "(I)V"⟩
abbrev cX12_countOf : ByteArray := prog_14_method_38_code
def yX12_countOf : MethodName := ⟨RX12, "countOf", "(II)J"⟩
abbrev cX12_isSize : ByteArray := prog_14_method_39_code
def yX12_isSize : MethodName := ⟨RX12, "isSize", "(II)Z"⟩
abbrev cX12_count : ByteArray := prog_14_method_40_code
def yX12_count : MethodName := ⟨RX12, "count", "(II)J"⟩
abbrev cX12_ways : ByteArray := prog_14_method_41_code
def yX12_ways : MethodName := ⟨RX12, "ways", "(IIIIII)J"⟩
abbrev cX12_makeFor : ByteArray := prog_14_method_42_code
def yX12_makeFor : MethodName := ⟨RX12, "makeFor", "(I)V"⟩
abbrev cX12_rank : ByteArray := prog_14_method_43_code
def yX12_rank : MethodName := ⟨RX12, "rank", "(II)J"⟩
abbrev cX12_tell : ByteArray := prog_14_method_44_code
def yX12_tell : MethodName := ⟨RX12, "tell", "(IIJI)I"⟩
abbrev cX12_isUnlike : ByteArray := prog_14_method_45_code
def yX12_isUnlike : MethodName := ⟨RX12, "isUnlike", "(I)Z"⟩
abbrev cX12_isOdd : ByteArray := prog_14_method_46_code
def yX12_isOdd : MethodName := ⟨RX12, "isOdd", "(I)Z"⟩
abbrev cX12_isOwn : ByteArray := prog_14_method_47_code
def yX12_isOwn : MethodName := ⟨RX12, "isOwn", "(I)Z"⟩
abbrev cX12_countParts : ByteArray := prog_14_method_48_code
def yX12_countParts : MethodName := ⟨RX12, "countParts", "(I)V"⟩
abbrev cX12_fromOften : ByteArray := prog_14_method_49_code
def yX12_fromOften : MethodName := ⟨RX12, "fromOften", "()V"⟩
abbrev cX12_isBelow : ByteArray := prog_14_method_50_code
def yX12_isBelow : MethodName := ⟨RX12, "isBelow", "(II)Z"⟩
abbrev cX12_hasMultiple : ByteArray := prog_14_method_51_code
def yX12_hasMultiple : MethodName := ⟨RX12, "hasMultiple", "(II)Z"⟩
abbrev cX12_mayLead : ByteArray := prog_14_method_52_code
def yX12_mayLead : MethodName := ⟨RX12, "mayLead", "(II)Z"⟩
abbrev cX12_lead : ByteArray := prog_14_method_53_code
def yX12_lead : MethodName := ⟨RX12, "lead", "(IIII)I"⟩
abbrev cX12_back : ByteArray := prog_14_method_54_code
def yX12_back : MethodName := ⟨RX12, "back", "(IIII)I"⟩
abbrev cX12_turn : ByteArray := prog_14_method_55_code
def yX12_turn : MethodName := ⟨RX12, "turn", "(I)V"⟩
abbrev cX12_fromHooks : ByteArray := prog_14_method_56_code
def yX12_fromHooks : MethodName := ⟨RX12, "fromHooks", "(I)V"⟩
abbrev cX12_bend : ByteArray := prog_14_method_57_code
def yX12_bend : MethodName := ⟨RX12, "bend", "(I)V"⟩
abbrev cX12_unbend : ByteArray := prog_14_method_58_code
def yX12_unbend : MethodName := ⟨RX12, "unbend", "(I)V"⟩
abbrev cX12_move : ByteArray := prog_14_method_59_code
def yX12_move : MethodName := ⟨RX12, "move", "(I)V"⟩
abbrev cX12_toBeads : ByteArray := prog_14_method_60_code
def yX12_toBeads : MethodName := ⟨RX12, "toBeads", "(II)V"⟩
abbrev cX12_fromBeads : ByteArray := prog_14_method_61_code
def yX12_fromBeads : MethodName := ⟨RX12, "fromBeads", "()V"⟩
abbrev cX12_isWidth : ByteArray := prog_14_method_62_code
def yX12_isWidth : MethodName := ⟨RX12, "isWidth", "(I)Z"⟩
abbrev cX12_pushDown : ByteArray := prog_14_method_63_code
def yX12_pushDown : MethodName := ⟨RX12, "pushDown", "(I)V"⟩
abbrev cX12_core : ByteArray := prog_14_method_64_code
def yX12_core : MethodName := ⟨RX12, "core", "(III)I"⟩
abbrev cX12_quotient : ByteArray := prog_14_method_65_code
def yX12_quotient : MethodName := ⟨RX12, "quotient", "(IIII)I"⟩
abbrev cX12_join : ByteArray := prog_14_method_66_code
def yX12_join : MethodName := ⟨RX12, "join", "(III)I"⟩
abbrev cX12_peel : ByteArray := prog_14_method_67_code
def yX12_peel : MethodName := ⟨RX12, "peel", "(II)I"⟩
abbrev cX12_split : ByteArray := prog_14_method_68_code
def yX12_split : MethodName := ⟨RX12, "split", "(II)V"⟩
abbrev cX12_fillingsOf : ByteArray := prog_14_method_69_code
def yX12_fillingsOf : MethodName := ⟨RX12, "fillingsOf", "(I)J"⟩
abbrev cX12_fillings : ByteArray := prog_14_method_70_code
def yX12_fillings : MethodName := ⟨RX12, "fillings", "(I)J"⟩
abbrev cX12_filling : ByteArray := prog_14_method_71_code
def yX12_filling : MethodName := ⟨RX12, "filling", "(IJI)I"⟩
abbrev cX12_takeSquare : ByteArray := prog_14_method_72_code
def yX12_takeSquare : MethodName := ⟨RX12, "takeSquare", "(II)V"⟩
abbrev cX12_without : ByteArray := prog_14_method_73_code
def yX12_without : MethodName := ⟨RX12, "without", "(I)J"⟩
abbrev cX12_rest : ByteArray := prog_14_method_74_code
def yX12_rest : MethodName := ⟨RX12, "rest", "(II)I"⟩
abbrev cX12_two : ByteArray := prog_14_method_75_code
def yX12_two : MethodName := ⟨RX12, "two", "(II)J"⟩
abbrev cX12_makeTwos : ByteArray := prog_14_method_76_code
def yX12_makeTwos : MethodName := ⟨RX12, "makeTwos", "()V"⟩
abbrev cX12_withOnes : ByteArray := prog_14_method_77_code
def yX12_withOnes : MethodName := ⟨RX12, "withOnes", "(III)J"⟩
abbrev cX12_heap : ByteArray := prog_14_method_78_code
def yX12_heap : MethodName := ⟨RX12, "heap", "(IIII)J"⟩
abbrev cX12_isRow : ByteArray := prog_14_method_79_code
def yX12_isRow : MethodName := ⟨RX12, "isRow", "(I)Z"⟩
abbrev cX12_setRow : ByteArray := prog_14_method_80_code
def yX12_setRow : MethodName := ⟨RX12, "setRow", "(I)V"⟩
abbrev cX12_one : ByteArray := prog_14_method_81_code
def yX12_one : MethodName := ⟨RX12, "one", "(I)I"⟩
abbrev cX12_factors : ByteArray := prog_14_method_82_code
def yX12_factors : MethodName := ⟨RX12, "factors", "(IIII)I"⟩
abbrev cX12_signs : ByteArray := prog_14_method_83_code
def yX12_signs : MethodName := ⟨RX12, "signs", "(III)I"⟩
abbrev cX12_counts : ByteArray := prog_14_method_84_code
def yX12_counts : MethodName := ⟨RX12, "counts", "(II)I"⟩
abbrev cX12_countAt : ByteArray := prog_14_method_85_code
def yX12_countAt : MethodName := ⟨RX12, "countAt", "(II)J"⟩
abbrev cX12_combine : ByteArray := prog_14_method_86_code
def yX12_combine : MethodName := ⟨RX12, "combine", "(III)I"⟩
abbrev cX12_series : ByteArray := prog_14_method_87_code
def yX12_series : MethodName := ⟨RX12, "series", "(II)J"⟩
abbrev cX12_same : ByteArray := prog_14_method_88_code
def yX12_same : MethodName := ⟨RX12, "same", "(II)I"⟩
abbrev cX12_told : ByteArray := prog_14_method_89_code
def yX12_told : MethodName := ⟨RX12, "told", "(I)I"⟩
def RJ9 : String := "java/lang/Math"
abbrev cJ9_floorMod_7cf53 : ByteArray := prog_15_method_50_code
def yJ9_floorMod_7cf53 : MethodName := ⟨RJ9, "floorMod", "(II)I"⟩
abbrev cJ9_abs_0f7a4 : ByteArray := prog_15_method_59_code
def yJ9_abs_0f7a4 : MethodName := ⟨RJ9, "abs", "(I)I"⟩
abbrev cJ9_max_7cf53 : ByteArray := prog_15_method_65_code
def yJ9_max_7cf53 : MethodName := ⟨RJ9, "max", "(II)I"⟩
abbrev cJ9_min_7cf53 : ByteArray := prog_15_method_69_code
def yJ9_min_7cf53 : MethodName := ⟨RJ9, "min", "(II)I"⟩
def RL : String := "PartitionPressLaw"
abbrev vwCl : List vw_C := [(RX0, TX0, 2), (RX1, TX1, 2), (RX2, TX2, 8), (RX3, TX3, 3), (RX4, TX4, 12), (RX5, TX5, 4), (RX6, TX6, 4), (RX7, TX7, 1), (RX9, TX9, 3), (RX10, TX10, 3), (RX11, TX11, 11), (RX12, TX12, 27)]
