-- ===== PART A: goes FIRST, ahead of the names: the tables' words, and 'selects' of the private methods out of them =====
/-- a private method of a class that the tables say can be made, by its rows of tables_1 -/
def lw_okq (q : MethodName × Nat) : Prop := (q.1.cls ≠ "java/lang/invoke/MethodHandle" ∧ q.1.cls ≠ "java/lang/invoke/VarHandle") ∧ Cond.instantiable q.1.cls q.2 ∈ tables_1 ∧ Cond.privateMethod q.1 ∈ tables_1 ∧ Cond.instanceMethod q.1 ∈ tables_1
theorem lw_p0 : lw_okq (⟨"CompactDisc", "addByte", "(I)V"⟩, 11) := ⟨⟨by decide +kernel, by decide +kernel⟩, List.mem_of_getElem? (i := 16) (by decide +kernel), List.mem_of_getElem? (i := 284) (by decide +kernel), List.mem_of_getElem? (i := 285) (by decide +kernel)⟩
theorem lw_p1 : lw_okq (⟨"CompactDisc$Presser", "makeOuterWords", "([BII)V"⟩, 11) := ⟨⟨by decide +kernel, by decide +kernel⟩, List.mem_of_getElem? (i := 142) (by decide +kernel), List.mem_of_getElem? (i := 357) (by decide +kernel), List.mem_of_getElem? (i := 358) (by decide +kernel)⟩
theorem lw_p2 : lw_okq (⟨"CompactDisc$Code", "sumUp", "([BI)V"⟩, 8) := ⟨⟨by decide +kernel, by decide +kernel⟩, List.mem_of_getElem? (i := 95) (by decide +kernel), List.mem_of_getElem? (i := 386) (by decide +kernel), List.mem_of_getElem? (i := 387) (by decide +kernel)⟩
theorem lw_p3 : lw_okq (⟨"CompactDisc$Code", "fits", "([BI)Z"⟩, 8) := ⟨⟨by decide +kernel, by decide +kernel⟩, List.mem_of_getElem? (i := 95) (by decide +kernel), List.mem_of_getElem? (i := 390) (by decide +kernel), List.mem_of_getElem? (i := 391) (by decide +kernel)⟩
theorem lw_p4 : lw_okq (⟨"CompactDisc$Code", "addSpot", "(I)V"⟩, 8) := ⟨⟨by decide +kernel, by decide +kernel⟩, List.mem_of_getElem? (i := 95) (by decide +kernel), List.mem_of_getElem? (i := 395) (by decide +kernel), List.mem_of_getElem? (i := 396) (by decide +kernel)⟩
theorem lw_p5 : lw_okq (⟨"CompactDisc$Code", "correct", "([BI)V"⟩, 8) := ⟨⟨by decide +kernel, by decide +kernel⟩, List.mem_of_getElem? (i := 95) (by decide +kernel), List.mem_of_getElem? (i := 399) (by decide +kernel), List.mem_of_getElem? (i := 400) (by decide +kernel)⟩
theorem lw_p6 : lw_okq (⟨"CompactDisc$Code", "spread", "(I)I"⟩, 8) := ⟨⟨by decide +kernel, by decide +kernel⟩, List.mem_of_getElem? (i := 95) (by decide +kernel), List.mem_of_getElem? (i := 403) (by decide +kernel), List.mem_of_getElem? (i := 404) (by decide +kernel)⟩
theorem lw_p7 : lw_okq (⟨"CompactDisc$Code", "without", "(II)I"⟩, 8) := ⟨⟨by decide +kernel, by decide +kernel⟩, List.mem_of_getElem? (i := 95) (by decide +kernel), List.mem_of_getElem? (i := 416) (by decide +kernel), List.mem_of_getElem? (i := 417) (by decide +kernel)⟩
theorem lw_p8 : lw_okq (⟨"CompactDisc$Presser", "makeInnerWords", "(I)V"⟩, 11) := ⟨⟨by decide +kernel, by decide +kernel⟩, List.mem_of_getElem? (i := 142) (by decide +kernel), List.mem_of_getElem? (i := 424) (by decide +kernel), List.mem_of_getElem? (i := 425) (by decide +kernel)⟩
theorem lw_p9 : lw_okq (⟨"CompactDisc$Presser", "makeFrames", "(I)V"⟩, 11) := ⟨⟨by decide +kernel, by decide +kernel⟩, List.mem_of_getElem? (i := 142) (by decide +kernel), List.mem_of_getElem? (i := 432) (by decide +kernel), List.mem_of_getElem? (i := 433) (by decide +kernel)⟩
theorem lw_p10 : lw_okq (⟨"CompactDisc$Presser", "cut", "(I)V"⟩, 11) := ⟨⟨by decide +kernel, by decide +kernel⟩, List.mem_of_getElem? (i := 142) (by decide +kernel), List.mem_of_getElem? (i := 436) (by decide +kernel), List.mem_of_getElem? (i := 437) (by decide +kernel)⟩
theorem lw_p11 : lw_okq (⟨"CompactDisc$Presser", "startGroove", "()V"⟩, 11) := ⟨⟨by decide +kernel, by decide +kernel⟩, List.mem_of_getElem? (i := 142) (by decide +kernel), List.mem_of_getElem? (i := 440) (by decide +kernel), List.mem_of_getElem? (i := 441) (by decide +kernel)⟩
theorem lw_p12 : lw_okq (⟨"CompactDisc$Presser", "carve", "(II)V"⟩, 11) := ⟨⟨by decide +kernel, by decide +kernel⟩, List.mem_of_getElem? (i := 142) (by decide +kernel), List.mem_of_getElem? (i := 445) (by decide +kernel), List.mem_of_getElem? (i := 446) (by decide +kernel)⟩
theorem lw_p13 : lw_okq (⟨"CompactDisc$Groove", "merge", "(II)V"⟩, 3) := ⟨⟨by decide +kernel, by decide +kernel⟩, List.mem_of_getElem? (i := 126) (by decide +kernel), List.mem_of_getElem? (i := 453) (by decide +kernel), List.mem_of_getElem? (i := 454) (by decide +kernel)⟩
theorem lw_p14 : lw_okq (⟨"CompactDisc$Presser", "carveJoined", "(II)V"⟩, 11) := ⟨⟨by decide +kernel, by decide +kernel⟩, List.mem_of_getElem? (i := 142) (by decide +kernel), List.mem_of_getElem? (i := 470) (by decide +kernel), List.mem_of_getElem? (i := 471) (by decide +kernel)⟩
theorem lw_p15 : lw_okq (⟨"CompactDisc$Presser", "chooseJoint", "(II)I"⟩, 11) := ⟨⟨by decide +kernel, by decide +kernel⟩, List.mem_of_getElem? (i := 142) (by decide +kernel), List.mem_of_getElem? (i := 474) (by decide +kernel), List.mem_of_getElem? (i := 475) (by decide +kernel)⟩
def lw_privs_1 : List (MethodName × Nat) := [(⟨"CompactDisc", "addByte", "(I)V"⟩, 11), (⟨"CompactDisc$Presser", "makeOuterWords", "([BII)V"⟩, 11), (⟨"CompactDisc$Code", "sumUp", "([BI)V"⟩, 8), (⟨"CompactDisc$Code", "fits", "([BI)Z"⟩, 8), (⟨"CompactDisc$Code", "addSpot", "(I)V"⟩, 8), (⟨"CompactDisc$Code", "correct", "([BI)V"⟩, 8), (⟨"CompactDisc$Code", "spread", "(I)I"⟩, 8), (⟨"CompactDisc$Code", "without", "(II)I"⟩, 8), (⟨"CompactDisc$Presser", "makeInnerWords", "(I)V"⟩, 11), (⟨"CompactDisc$Presser", "makeFrames", "(I)V"⟩, 11), (⟨"CompactDisc$Presser", "cut", "(I)V"⟩, 11), (⟨"CompactDisc$Presser", "startGroove", "()V"⟩, 11), (⟨"CompactDisc$Presser", "carve", "(II)V"⟩, 11), (⟨"CompactDisc$Groove", "merge", "(II)V"⟩, 3), (⟨"CompactDisc$Presser", "carveJoined", "(II)V"⟩, 11), (⟨"CompactDisc$Presser", "chooseJoint", "(II)I"⟩, 11)]
theorem lw_r1 : ∀ q ∈ lw_privs_1, lw_okq q := List.forall_mem_cons.mpr ⟨lw_p0, List.forall_mem_cons.mpr ⟨lw_p1, List.forall_mem_cons.mpr ⟨lw_p2, List.forall_mem_cons.mpr ⟨lw_p3, List.forall_mem_cons.mpr ⟨lw_p4, List.forall_mem_cons.mpr ⟨lw_p5, List.forall_mem_cons.mpr ⟨lw_p6, List.forall_mem_cons.mpr ⟨lw_p7, List.forall_mem_cons.mpr ⟨lw_p8, List.forall_mem_cons.mpr ⟨lw_p9, List.forall_mem_cons.mpr ⟨lw_p10, List.forall_mem_cons.mpr ⟨lw_p11, List.forall_mem_cons.mpr ⟨lw_p12, List.forall_mem_cons.mpr ⟨lw_p13, List.forall_mem_cons.mpr ⟨lw_p14, List.forall_mem_cons.mpr ⟨lw_p15, fun _ h => absurd h List.not_mem_nil⟩⟩⟩⟩⟩⟩⟩⟩⟩⟩⟩⟩⟩⟩⟩⟩
theorem lw_p16 : lw_okq (⟨"CompactDisc$Presser", "mayBe", "(II)Z"⟩, 11) := ⟨⟨by decide +kernel, by decide +kernel⟩, List.mem_of_getElem? (i := 142) (by decide +kernel), List.mem_of_getElem? (i := 482) (by decide +kernel), List.mem_of_getElem? (i := 483) (by decide +kernel)⟩
theorem lw_p17 : lw_okq (⟨"CompactDisc$Presser", "mocks", "(II)Z"⟩, 11) := ⟨⟨by decide +kernel, by decide +kernel⟩, List.mem_of_getElem? (i := 142) (by decide +kernel), List.mem_of_getElem? (i := 489) (by decide +kernel), List.mem_of_getElem? (i := 490) (by decide +kernel)⟩
theorem lw_p18 : lw_okq (⟨"CompactDisc$Contents", "entryFor", "(I)I"⟩, 6) := ⟨⟨by decide +kernel, by decide +kernel⟩, List.mem_of_getElem? (i := 55) (by decide +kernel), List.mem_of_getElem? (i := 502) (by decide +kernel), List.mem_of_getElem? (i := 503) (by decide +kernel)⟩
theorem lw_p19 : lw_okq (⟨"CompactDisc$Contents", "controlOf", "(I)I"⟩, 6) := ⟨⟨by decide +kernel, by decide +kernel⟩, List.mem_of_getElem? (i := 55) (by decide +kernel), List.mem_of_getElem? (i := 506) (by decide +kernel), List.mem_of_getElem? (i := 507) (by decide +kernel)⟩
theorem lw_p20 : lw_okq (⟨"CompactDisc$Contents", "trackOf", "(I)I"⟩, 6) := ⟨⟨by decide +kernel, by decide +kernel⟩, List.mem_of_getElem? (i := 55) (by decide +kernel), List.mem_of_getElem? (i := 513) (by decide +kernel), List.mem_of_getElem? (i := 514) (by decide +kernel)⟩
theorem lw_p21 : lw_okq (⟨"CompactDisc$Contents", "indexOf", "(I)I"⟩, 6) := ⟨⟨by decide +kernel, by decide +kernel⟩, List.mem_of_getElem? (i := 55) (by decide +kernel), List.mem_of_getElem? (i := 517) (by decide +kernel), List.mem_of_getElem? (i := 518) (by decide +kernel)⟩
theorem lw_p22 : lw_okq (⟨"CompactDisc$Contents", "timeOf", "(II)I"⟩, 6) := ⟨⟨by decide +kernel, by decide +kernel⟩, List.mem_of_getElem? (i := 55) (by decide +kernel), List.mem_of_getElem? (i := 521) (by decide +kernel), List.mem_of_getElem? (i := 522) (by decide +kernel)⟩
theorem lw_p23 : lw_okq (⟨"CompactDisc$Contents", "belongs", "(II)Z"⟩, 6) := ⟨⟨by decide +kernel, by decide +kernel⟩, List.mem_of_getElem? (i := 55) (by decide +kernel), List.mem_of_getElem? (i := 525) (by decide +kernel), List.mem_of_getElem? (i := 526) (by decide +kernel)⟩
theorem lw_p24 : lw_okq (⟨"CompactDisc$Label", "writeTime", "(II)V"⟩, 1) := ⟨⟨by decide +kernel, by decide +kernel⟩, List.mem_of_getElem? (i := 148) (by decide +kernel), List.mem_of_getElem? (i := 536) (by decide +kernel), List.mem_of_getElem? (i := 537) (by decide +kernel)⟩
theorem lw_p25 : lw_okq (⟨"CompactDisc$Label", "restOf80", "()I"⟩, 1) := ⟨⟨by decide +kernel, by decide +kernel⟩, List.mem_of_getElem? (i := 148) (by decide +kernel), List.mem_of_getElem? (i := 540) (by decide +kernel), List.mem_of_getElem? (i := 541) (by decide +kernel)⟩
theorem lw_p26 : lw_okq (⟨"CompactDisc$Presser", "wordBeside", "(I)I"⟩, 11) := ⟨⟨by decide +kernel, by decide +kernel⟩, List.mem_of_getElem? (i := 142) (by decide +kernel), List.mem_of_getElem? (i := 549) (by decide +kernel), List.mem_of_getElem? (i := 550) (by decide +kernel)⟩
theorem lw_p27 : lw_okq (⟨"CompactDisc$Groove", "cell", "(I)I"⟩, 3) := ⟨⟨by decide +kernel, by decide +kernel⟩, List.mem_of_getElem? (i := 126) (by decide +kernel), List.mem_of_getElem? (i := 593) (by decide +kernel), List.mem_of_getElem? (i := 594) (by decide +kernel)⟩
theorem lw_p28 : lw_okq (⟨"CompactDisc", "canSpoil", "(II)Z"⟩, 11) := ⟨⟨by decide +kernel, by decide +kernel⟩, List.mem_of_getElem? (i := 16) (by decide +kernel), List.mem_of_getElem? (i := 676) (by decide +kernel), List.mem_of_getElem? (i := 677) (by decide +kernel)⟩
theorem lw_p29 : lw_okq (⟨"CompactDisc$Player", "findFrames", "(I)V"⟩, 15) := ⟨⟨by decide +kernel, by decide +kernel⟩, List.mem_of_getElem? (i := 192) (by decide +kernel), List.mem_of_getElem? (i := 719) (by decide +kernel), List.mem_of_getElem? (i := 720) (by decide +kernel)⟩
theorem lw_p30 : lw_okq (⟨"CompactDisc$Player", "nextStart", "(II)I"⟩, 15) := ⟨⟨by decide +kernel, by decide +kernel⟩, List.mem_of_getElem? (i := 192) (by decide +kernel), List.mem_of_getElem? (i := 725) (by decide +kernel), List.mem_of_getElem? (i := 726) (by decide +kernel)⟩
theorem lw_p31 : lw_okq (⟨"CompactDisc$Player", "readFrame", "(I)V"⟩, 15) := ⟨⟨by decide +kernel, by decide +kernel⟩, List.mem_of_getElem? (i := 192) (by decide +kernel), List.mem_of_getElem? (i := 731) (by decide +kernel), List.mem_of_getElem? (i := 732) (by decide +kernel)⟩
def lw_privs_2 : List (MethodName × Nat) := [(⟨"CompactDisc$Presser", "mayBe", "(II)Z"⟩, 11), (⟨"CompactDisc$Presser", "mocks", "(II)Z"⟩, 11), (⟨"CompactDisc$Contents", "entryFor", "(I)I"⟩, 6), (⟨"CompactDisc$Contents", "controlOf", "(I)I"⟩, 6), (⟨"CompactDisc$Contents", "trackOf", "(I)I"⟩, 6), (⟨"CompactDisc$Contents", "indexOf", "(I)I"⟩, 6), (⟨"CompactDisc$Contents", "timeOf", "(II)I"⟩, 6), (⟨"CompactDisc$Contents", "belongs", "(II)Z"⟩, 6), (⟨"CompactDisc$Label", "writeTime", "(II)V"⟩, 1), (⟨"CompactDisc$Label", "restOf80", "()I"⟩, 1), (⟨"CompactDisc$Presser", "wordBeside", "(I)I"⟩, 11), (⟨"CompactDisc$Groove", "cell", "(I)I"⟩, 3), (⟨"CompactDisc", "canSpoil", "(II)Z"⟩, 11), (⟨"CompactDisc$Player", "findFrames", "(I)V"⟩, 15), (⟨"CompactDisc$Player", "nextStart", "(II)I"⟩, 15), (⟨"CompactDisc$Player", "readFrame", "(I)V"⟩, 15)]
theorem lw_r2 : ∀ q ∈ lw_privs_2, lw_okq q := List.forall_mem_cons.mpr ⟨lw_p16, List.forall_mem_cons.mpr ⟨lw_p17, List.forall_mem_cons.mpr ⟨lw_p18, List.forall_mem_cons.mpr ⟨lw_p19, List.forall_mem_cons.mpr ⟨lw_p20, List.forall_mem_cons.mpr ⟨lw_p21, List.forall_mem_cons.mpr ⟨lw_p22, List.forall_mem_cons.mpr ⟨lw_p23, List.forall_mem_cons.mpr ⟨lw_p24, List.forall_mem_cons.mpr ⟨lw_p25, List.forall_mem_cons.mpr ⟨lw_p26, List.forall_mem_cons.mpr ⟨lw_p27, List.forall_mem_cons.mpr ⟨lw_p28, List.forall_mem_cons.mpr ⟨lw_p29, List.forall_mem_cons.mpr ⟨lw_p30, List.forall_mem_cons.mpr ⟨lw_p31, fun _ h => absurd h List.not_mem_nil⟩⟩⟩⟩⟩⟩⟩⟩⟩⟩⟩⟩⟩⟩⟩⟩
theorem lw_p32 : lw_okq (⟨"CompactDisc$Player", "takeInnerWord", "(I)V"⟩, 15) := ⟨⟨by decide +kernel, by decide +kernel⟩, List.mem_of_getElem? (i := 192) (by decide +kernel), List.mem_of_getElem? (i := 747) (by decide +kernel), List.mem_of_getElem? (i := 748) (by decide +kernel)⟩
theorem lw_p33 : lw_okq (⟨"CompactDisc$Player", "mendInner", "(II)V"⟩, 15) := ⟨⟨by decide +kernel, by decide +kernel⟩, List.mem_of_getElem? (i := 192) (by decide +kernel), List.mem_of_getElem? (i := 758) (by decide +kernel), List.mem_of_getElem? (i := 759) (by decide +kernel)⟩
theorem lw_p34 : lw_okq (⟨"CompactDisc$Code", "locate", "(II)Z"⟩, 8) := ⟨⟨by decide +kernel, by decide +kernel⟩, List.mem_of_getElem? (i := 95) (by decide +kernel), List.mem_of_getElem? (i := 774) (by decide +kernel), List.mem_of_getElem? (i := 775) (by decide +kernel)⟩
theorem lw_p35 : lw_okq (⟨"CompactDisc$Code", "locateOne", "(II)Z"⟩, 8) := ⟨⟨by decide +kernel, by decide +kernel⟩, List.mem_of_getElem? (i := 95) (by decide +kernel), List.mem_of_getElem? (i := 778) (by decide +kernel), List.mem_of_getElem? (i := 779) (by decide +kernel)⟩
theorem lw_p36 : lw_okq (⟨"CompactDisc$Code", "locateTwo", "()Z"⟩, 8) := ⟨⟨by decide +kernel, by decide +kernel⟩, List.mem_of_getElem? (i := 95) (by decide +kernel), List.mem_of_getElem? (i := 786) (by decide +kernel), List.mem_of_getElem? (i := 787) (by decide +kernel)⟩
theorem lw_p37 : lw_okq (⟨"CompactDisc$Player", "takeOuterWord", "(I)I"⟩, 15) := ⟨⟨by decide +kernel, by decide +kernel⟩, List.mem_of_getElem? (i := 192) (by decide +kernel), List.mem_of_getElem? (i := 790) (by decide +kernel), List.mem_of_getElem? (i := 791) (by decide +kernel)⟩
theorem lw_p38 : lw_okq (⟨"CompactDisc$Player", "mendOuter", "(III)V"⟩, 15) := ⟨⟨by decide +kernel, by decide +kernel⟩, List.mem_of_getElem? (i := 192) (by decide +kernel), List.mem_of_getElem? (i := 799) (by decide +kernel), List.mem_of_getElem? (i := 800) (by decide +kernel)⟩
theorem lw_p39 : lw_okq (⟨"CompactDisc$Player", "countUnsure", "()V"⟩, 15) := ⟨⟨by decide +kernel, by decide +kernel⟩, List.mem_of_getElem? (i := 192) (by decide +kernel), List.mem_of_getElem? (i := 805) (by decide +kernel), List.mem_of_getElem? (i := 806) (by decide +kernel)⟩
theorem lw_p40 : lw_okq (⟨"CompactDisc$Player", "hide", "(I)V"⟩, 15) := ⟨⟨by decide +kernel, by decide +kernel⟩, List.mem_of_getElem? (i := 192) (by decide +kernel), List.mem_of_getElem? (i := 818) (by decide +kernel), List.mem_of_getElem? (i := 819) (by decide +kernel)⟩
theorem lw_p41 : lw_okq (⟨"CompactDisc$Player", "sampleSure", "(II)Z"⟩, 15) := ⟨⟨by decide +kernel, by decide +kernel⟩, List.mem_of_getElem? (i := 192) (by decide +kernel), List.mem_of_getElem? (i := 822) (by decide +kernel), List.mem_of_getElem? (i := 823) (by decide +kernel)⟩
theorem lw_p42 : lw_okq (⟨"CompactDisc$Player", "isSample", "(I)Z"⟩, 15) := ⟨⟨by decide +kernel, by decide +kernel⟩, List.mem_of_getElem? (i := 192) (by decide +kernel), List.mem_of_getElem? (i := 829) (by decide +kernel), List.mem_of_getElem? (i := 830) (by decide +kernel)⟩
theorem lw_p43 : lw_okq (⟨"CompactDisc$Player", "sampleOf", "(II)I"⟩, 15) := ⟨⟨by decide +kernel, by decide +kernel⟩, List.mem_of_getElem? (i := 192) (by decide +kernel), List.mem_of_getElem? (i := 833) (by decide +kernel), List.mem_of_getElem? (i := 834) (by decide +kernel)⟩
theorem lw_p44 : lw_okq (⟨"CompactDisc$Player", "countSections", "()I"⟩, 15) := ⟨⟨by decide +kernel, by decide +kernel⟩, List.mem_of_getElem? (i := 192) (by decide +kernel), List.mem_of_getElem? (i := 841) (by decide +kernel), List.mem_of_getElem? (i := 842) (by decide +kernel)⟩
theorem lw_p45 : lw_okq (⟨"CompactDisc$Player", "beginsSection", "(I)Z"⟩, 15) := ⟨⟨by decide +kernel, by decide +kernel⟩, List.mem_of_getElem? (i := 192) (by decide +kernel), List.mem_of_getElem? (i := 845) (by decide +kernel), List.mem_of_getElem? (i := 846) (by decide +kernel)⟩
theorem lw_p46 : lw_okq (⟨"CompactDisc$Player", "wasFound", "(I)Z"⟩, 15) := ⟨⟨by decide +kernel, by decide +kernel⟩, List.mem_of_getElem? (i := 192) (by decide +kernel), List.mem_of_getElem? (i := 849) (by decide +kernel), List.mem_of_getElem? (i := 850) (by decide +kernel)⟩
theorem lw_p47 : lw_okq (⟨"CompactDisc$Player", "sectionStart", "(I)I"⟩, 15) := ⟨⟨by decide +kernel, by decide +kernel⟩, List.mem_of_getElem? (i := 192) (by decide +kernel), List.mem_of_getElem? (i := 908) (by decide +kernel), List.mem_of_getElem? (i := 909) (by decide +kernel)⟩
def lw_privs_3 : List (MethodName × Nat) := [(⟨"CompactDisc$Player", "takeInnerWord", "(I)V"⟩, 15), (⟨"CompactDisc$Player", "mendInner", "(II)V"⟩, 15), (⟨"CompactDisc$Code", "locate", "(II)Z"⟩, 8), (⟨"CompactDisc$Code", "locateOne", "(II)Z"⟩, 8), (⟨"CompactDisc$Code", "locateTwo", "()Z"⟩, 8), (⟨"CompactDisc$Player", "takeOuterWord", "(I)I"⟩, 15), (⟨"CompactDisc$Player", "mendOuter", "(III)V"⟩, 15), (⟨"CompactDisc$Player", "countUnsure", "()V"⟩, 15), (⟨"CompactDisc$Player", "hide", "(I)V"⟩, 15), (⟨"CompactDisc$Player", "sampleSure", "(II)Z"⟩, 15), (⟨"CompactDisc$Player", "isSample", "(I)Z"⟩, 15), (⟨"CompactDisc$Player", "sampleOf", "(II)I"⟩, 15), (⟨"CompactDisc$Player", "countSections", "()I"⟩, 15), (⟨"CompactDisc$Player", "beginsSection", "(I)Z"⟩, 15), (⟨"CompactDisc$Player", "wasFound", "(I)Z"⟩, 15), (⟨"CompactDisc$Player", "sectionStart", "(I)I"⟩, 15)]
theorem lw_r3 : ∀ q ∈ lw_privs_3, lw_okq q := List.forall_mem_cons.mpr ⟨lw_p32, List.forall_mem_cons.mpr ⟨lw_p33, List.forall_mem_cons.mpr ⟨lw_p34, List.forall_mem_cons.mpr ⟨lw_p35, List.forall_mem_cons.mpr ⟨lw_p36, List.forall_mem_cons.mpr ⟨lw_p37, List.forall_mem_cons.mpr ⟨lw_p38, List.forall_mem_cons.mpr ⟨lw_p39, List.forall_mem_cons.mpr ⟨lw_p40, List.forall_mem_cons.mpr ⟨lw_p41, List.forall_mem_cons.mpr ⟨lw_p42, List.forall_mem_cons.mpr ⟨lw_p43, List.forall_mem_cons.mpr ⟨lw_p44, List.forall_mem_cons.mpr ⟨lw_p45, List.forall_mem_cons.mpr ⟨lw_p46, List.forall_mem_cons.mpr ⟨lw_p47, fun _ h => absurd h List.not_mem_nil⟩⟩⟩⟩⟩⟩⟩⟩⟩⟩⟩⟩⟩⟩⟩⟩
theorem lw_p48 : lw_okq (⟨"CompactDisc$Player", "readLabel", "(I)I"⟩, 15) := ⟨⟨by decide +kernel, by decide +kernel⟩, List.mem_of_getElem? (i := 192) (by decide +kernel), List.mem_of_getElem? (i := 912) (by decide +kernel), List.mem_of_getElem? (i := 913) (by decide +kernel)⟩
theorem lw_p49 : lw_okq (⟨"CompactDisc$Label", "areFigures", "(I)Z"⟩, 1) := ⟨⟨by decide +kernel, by decide +kernel⟩, List.mem_of_getElem? (i := 148) (by decide +kernel), List.mem_of_getElem? (i := 924) (by decide +kernel), List.mem_of_getElem? (i := 925) (by decide +kernel)⟩
theorem lw_p50 : lw_okq (⟨"CompactDisc$Label", "isTime", "(I)Z"⟩, 1) := ⟨⟨by decide +kernel, by decide +kernel⟩, List.mem_of_getElem? (i := 148) (by decide +kernel), List.mem_of_getElem? (i := 928) (by decide +kernel), List.mem_of_getElem? (i := 929) (by decide +kernel)⟩
theorem lw_p51 : lw_okq (⟨"CompactDisc$Label", "number", "(I)I"⟩, 1) := ⟨⟨by decide +kernel, by decide +kernel⟩, List.mem_of_getElem? (i := 148) (by decide +kernel), List.mem_of_getElem? (i := 932) (by decide +kernel), List.mem_of_getElem? (i := 933) (by decide +kernel)⟩
theorem lw_p52 : lw_okq (⟨"CompactDisc$Label", "timeOf", "(I)I"⟩, 1) := ⟨⟨by decide +kernel, by decide +kernel⟩, List.mem_of_getElem? (i := 148) (by decide +kernel), List.mem_of_getElem? (i := 952) (by decide +kernel), List.mem_of_getElem? (i := 953) (by decide +kernel)⟩
theorem lw_p53 : lw_okq (⟨"CompactDisc", "isBench", "(I)Z"⟩, 11) := ⟨⟨by decide +kernel, by decide +kernel⟩, List.mem_of_getElem? (i := 16) (by decide +kernel), List.mem_of_getElem? (i := 978) (by decide +kernel), List.mem_of_getElem? (i := 979) (by decide +kernel)⟩
theorem lw_p54 : lw_okq (⟨"CompactDisc", "codeOf", "(Z)LCompactDisc$Code;"⟩, 11) := ⟨⟨by decide +kernel, by decide +kernel⟩, List.mem_of_getElem? (i := 16) (by decide +kernel), List.mem_of_getElem? (i := 994) (by decide +kernel), List.mem_of_getElem? (i := 995) (by decide +kernel)⟩
theorem lw_p55 : lw_okq (⟨"CompactDiscModel", "makeOuter", "(I)V"⟩, 50) := ⟨⟨by decide +kernel, by decide +kernel⟩, List.mem_of_getElem? (i := 1013) (by decide +kernel), List.mem_of_getElem? (i := 1215) (by decide +kernel), List.mem_of_getElem? (i := 1216) (by decide +kernel)⟩
theorem lw_p56 : lw_okq (⟨"CompactDiscModel", "streamByte", "(II)I"⟩, 50) := ⟨⟨by decide +kernel, by decide +kernel⟩, List.mem_of_getElem? (i := 1013) (by decide +kernel), List.mem_of_getElem? (i := 1225) (by decide +kernel), List.mem_of_getElem? (i := 1226) (by decide +kernel)⟩
theorem lw_p57 : lw_okq (⟨"CompactDiscModel", "check", "(Z)V"⟩, 50) := ⟨⟨by decide +kernel, by decide +kernel⟩, List.mem_of_getElem? (i := 1013) (by decide +kernel), List.mem_of_getElem? (i := 1229) (by decide +kernel), List.mem_of_getElem? (i := 1230) (by decide +kernel)⟩
theorem lw_p58 : lw_okq (⟨"CompactDiscModel", "mended", "(II)I"⟩, 50) := ⟨⟨by decide +kernel, by decide +kernel⟩, List.mem_of_getElem? (i := 1013) (by decide +kernel), List.mem_of_getElem? (i := 1233) (by decide +kernel), List.mem_of_getElem? (i := 1234) (by decide +kernel)⟩
theorem lw_p59 : lw_okq (⟨"CompactDiscModel", "findSyndromes", "(I)V"⟩, 50) := ⟨⟨by decide +kernel, by decide +kernel⟩, List.mem_of_getElem? (i := 1013) (by decide +kernel), List.mem_of_getElem? (i := 1237) (by decide +kernel), List.mem_of_getElem? (i := 1238) (by decide +kernel)⟩
theorem lw_p60 : lw_okq (⟨"CompactDiscModel", "power", "(III)I"⟩, 50) := ⟨⟨by decide +kernel, by decide +kernel⟩, List.mem_of_getElem? (i := 1013) (by decide +kernel), List.mem_of_getElem? (i := 1241) (by decide +kernel), List.mem_of_getElem? (i := 1242) (by decide +kernel)⟩
theorem lw_p61 : lw_okq (⟨"CompactDiscModel", "times", "(II)I"⟩, 50) := ⟨⟨by decide +kernel, by decide +kernel⟩, List.mem_of_getElem? (i := 1013) (by decide +kernel), List.mem_of_getElem? (i := 1245) (by decide +kernel), List.mem_of_getElem? (i := 1246) (by decide +kernel)⟩
theorem lw_p62 : lw_okq (⟨"CompactDiscModel", "fits", "(II)Z"⟩, 50) := ⟨⟨by decide +kernel, by decide +kernel⟩, List.mem_of_getElem? (i := 1013) (by decide +kernel), List.mem_of_getElem? (i := 1249) (by decide +kernel), List.mem_of_getElem? (i := 1250) (by decide +kernel)⟩
theorem lw_p63 : lw_okq (⟨"CompactDiscModel", "swapRows", "(II)V"⟩, 50) := ⟨⟨by decide +kernel, by decide +kernel⟩, List.mem_of_getElem? (i := 1013) (by decide +kernel), List.mem_of_getElem? (i := 1253) (by decide +kernel), List.mem_of_getElem? (i := 1254) (by decide +kernel)⟩
def lw_privs_4 : List (MethodName × Nat) := [(⟨"CompactDisc$Player", "readLabel", "(I)I"⟩, 15), (⟨"CompactDisc$Label", "areFigures", "(I)Z"⟩, 1), (⟨"CompactDisc$Label", "isTime", "(I)Z"⟩, 1), (⟨"CompactDisc$Label", "number", "(I)I"⟩, 1), (⟨"CompactDisc$Label", "timeOf", "(I)I"⟩, 1), (⟨"CompactDisc", "isBench", "(I)Z"⟩, 11), (⟨"CompactDisc", "codeOf", "(Z)LCompactDisc$Code;"⟩, 11), (⟨"CompactDiscModel", "makeOuter", "(I)V"⟩, 50), (⟨"CompactDiscModel", "streamByte", "(II)I"⟩, 50), (⟨"CompactDiscModel", "check", "(Z)V"⟩, 50), (⟨"CompactDiscModel", "mended", "(II)I"⟩, 50), (⟨"CompactDiscModel", "findSyndromes", "(I)V"⟩, 50), (⟨"CompactDiscModel", "power", "(III)I"⟩, 50), (⟨"CompactDiscModel", "times", "(II)I"⟩, 50), (⟨"CompactDiscModel", "fits", "(II)Z"⟩, 50), (⟨"CompactDiscModel", "swapRows", "(II)V"⟩, 50)]
theorem lw_r4 : ∀ q ∈ lw_privs_4, lw_okq q := List.forall_mem_cons.mpr ⟨lw_p48, List.forall_mem_cons.mpr ⟨lw_p49, List.forall_mem_cons.mpr ⟨lw_p50, List.forall_mem_cons.mpr ⟨lw_p51, List.forall_mem_cons.mpr ⟨lw_p52, List.forall_mem_cons.mpr ⟨lw_p53, List.forall_mem_cons.mpr ⟨lw_p54, List.forall_mem_cons.mpr ⟨lw_p55, List.forall_mem_cons.mpr ⟨lw_p56, List.forall_mem_cons.mpr ⟨lw_p57, List.forall_mem_cons.mpr ⟨lw_p58, List.forall_mem_cons.mpr ⟨lw_p59, List.forall_mem_cons.mpr ⟨lw_p60, List.forall_mem_cons.mpr ⟨lw_p61, List.forall_mem_cons.mpr ⟨lw_p62, List.forall_mem_cons.mpr ⟨lw_p63, fun _ h => absurd h List.not_mem_nil⟩⟩⟩⟩⟩⟩⟩⟩⟩⟩⟩⟩⟩⟩⟩⟩
theorem lw_p64 : lw_okq (⟨"CompactDiscModel", "inverse", "(I)I"⟩, 50) := ⟨⟨by decide +kernel, by decide +kernel⟩, List.mem_of_getElem? (i := 1013) (by decide +kernel), List.mem_of_getElem? (i := 1257) (by decide +kernel), List.mem_of_getElem? (i := 1258) (by decide +kernel)⟩
theorem lw_p65 : lw_okq (⟨"CompactDiscModel", "changed", "(I)I"⟩, 50) := ⟨⟨by decide +kernel, by decide +kernel⟩, List.mem_of_getElem? (i := 1013) (by decide +kernel), List.mem_of_getElem? (i := 1261) (by decide +kernel), List.mem_of_getElem? (i := 1262) (by decide +kernel)⟩
theorem lw_p66 : lw_okq (⟨"CompactDiscModel", "findTwo", "(I)Z"⟩, 50) := ⟨⟨by decide +kernel, by decide +kernel⟩, List.mem_of_getElem? (i := 1013) (by decide +kernel), List.mem_of_getElem? (i := 1265) (by decide +kernel), List.mem_of_getElem? (i := 1266) (by decide +kernel)⟩
theorem lw_p67 : lw_okq (⟨"CompactDiscModel", "makeInner", "(I)V"⟩, 50) := ⟨⟨by decide +kernel, by decide +kernel⟩, List.mem_of_getElem? (i := 1013) (by decide +kernel), List.mem_of_getElem? (i := 1269) (by decide +kernel), List.mem_of_getElem? (i := 1270) (by decide +kernel)⟩
theorem lw_p68 : lw_okq (⟨"CompactDiscModel", "layBits", "(II)V"⟩, 50) := ⟨⟨by decide +kernel, by decide +kernel⟩, List.mem_of_getElem? (i := 1013) (by decide +kernel), List.mem_of_getElem? (i := 1274) (by decide +kernel), List.mem_of_getElem? (i := 1275) (by decide +kernel)⟩
theorem lw_p69 : lw_okq (⟨"CompactDiscModel", "besideWord", "(I)I"⟩, 50) := ⟨⟨by decide +kernel, by decide +kernel⟩, List.mem_of_getElem? (i := 1013) (by decide +kernel), List.mem_of_getElem? (i := 1279) (by decide +kernel), List.mem_of_getElem? (i := 1280) (by decide +kernel)⟩
theorem lw_p70 : lw_okq (⟨"CompactDiscModel", "makeChannel", "(I)V"⟩, 50) := ⟨⟨by decide +kernel, by decide +kernel⟩, List.mem_of_getElem? (i := 1013) (by decide +kernel), List.mem_of_getElem? (i := 1283) (by decide +kernel), List.mem_of_getElem? (i := 1284) (by decide +kernel)⟩
theorem lw_p71 : lw_okq (⟨"CompactDiscModel", "entryFor", "(I)I"⟩, 50) := ⟨⟨by decide +kernel, by decide +kernel⟩, List.mem_of_getElem? (i := 1013) (by decide +kernel), List.mem_of_getElem? (i := 1287) (by decide +kernel), List.mem_of_getElem? (i := 1288) (by decide +kernel)⟩
theorem lw_p72 : lw_okq (⟨"CompactDiscModel", "trackOf", "(I)I"⟩, 50) := ⟨⟨by decide +kernel, by decide +kernel⟩, List.mem_of_getElem? (i := 1013) (by decide +kernel), List.mem_of_getElem? (i := 1291) (by decide +kernel), List.mem_of_getElem? (i := 1292) (by decide +kernel)⟩
theorem lw_p73 : lw_okq (⟨"CompactDiscModel", "figures", "(II)I"⟩, 50) := ⟨⟨by decide +kernel, by decide +kernel⟩, List.mem_of_getElem? (i := 1013) (by decide +kernel), List.mem_of_getElem? (i := 1295) (by decide +kernel), List.mem_of_getElem? (i := 1296) (by decide +kernel)⟩
theorem lw_p74 : lw_okq (⟨"CompactDiscModel", "indexOf", "(I)I"⟩, 50) := ⟨⟨by decide +kernel, by decide +kernel⟩, List.mem_of_getElem? (i := 1013) (by decide +kernel), List.mem_of_getElem? (i := 1299) (by decide +kernel), List.mem_of_getElem? (i := 1300) (by decide +kernel)⟩
theorem lw_p75 : lw_okq (⟨"CompactDiscModel", "timeOf", "(I)I"⟩, 50) := ⟨⟨by decide +kernel, by decide +kernel⟩, List.mem_of_getElem? (i := 1013) (by decide +kernel), List.mem_of_getElem? (i := 1303) (by decide +kernel), List.mem_of_getElem? (i := 1304) (by decide +kernel)⟩
theorem lw_p76 : lw_okq (⟨"CompactDiscModel", "clock", "(II)I"⟩, 50) := ⟨⟨by decide +kernel, by decide +kernel⟩, List.mem_of_getElem? (i := 1013) (by decide +kernel), List.mem_of_getElem? (i := 1307) (by decide +kernel), List.mem_of_getElem? (i := 1308) (by decide +kernel)⟩
theorem lw_p77 : lw_okq (⟨"CompactDiscModel", "layWord", "(II)V"⟩, 50) := ⟨⟨by decide +kernel, by decide +kernel⟩, List.mem_of_getElem? (i := 1013) (by decide +kernel), List.mem_of_getElem? (i := 1315) (by decide +kernel), List.mem_of_getElem? (i := 1316) (by decide +kernel)⟩
theorem lw_p78 : lw_okq (⟨"CompactDiscModel", "jointFor", "(II)I"⟩, 50) := ⟨⟨by decide +kernel, by decide +kernel⟩, List.mem_of_getElem? (i := 1013) (by decide +kernel), List.mem_of_getElem? (i := 1319) (by decide +kernel), List.mem_of_getElem? (i := 1320) (by decide +kernel)⟩
theorem lw_p79 : lw_okq (⟨"CompactDiscModel", "tryJoint", "(III)V"⟩, 50) := ⟨⟨by decide +kernel, by decide +kernel⟩, List.mem_of_getElem? (i := 1013) (by decide +kernel), List.mem_of_getElem? (i := 1323) (by decide +kernel), List.mem_of_getElem? (i := 1324) (by decide +kernel)⟩
def lw_privs_5 : List (MethodName × Nat) := [(⟨"CompactDiscModel", "inverse", "(I)I"⟩, 50), (⟨"CompactDiscModel", "changed", "(I)I"⟩, 50), (⟨"CompactDiscModel", "findTwo", "(I)Z"⟩, 50), (⟨"CompactDiscModel", "makeInner", "(I)V"⟩, 50), (⟨"CompactDiscModel", "layBits", "(II)V"⟩, 50), (⟨"CompactDiscModel", "besideWord", "(I)I"⟩, 50), (⟨"CompactDiscModel", "makeChannel", "(I)V"⟩, 50), (⟨"CompactDiscModel", "entryFor", "(I)I"⟩, 50), (⟨"CompactDiscModel", "trackOf", "(I)I"⟩, 50), (⟨"CompactDiscModel", "figures", "(II)I"⟩, 50), (⟨"CompactDiscModel", "indexOf", "(I)I"⟩, 50), (⟨"CompactDiscModel", "timeOf", "(I)I"⟩, 50), (⟨"CompactDiscModel", "clock", "(II)I"⟩, 50), (⟨"CompactDiscModel", "layWord", "(II)V"⟩, 50), (⟨"CompactDiscModel", "jointFor", "(II)I"⟩, 50), (⟨"CompactDiscModel", "tryJoint", "(III)V"⟩, 50)]
theorem lw_r5 : ∀ q ∈ lw_privs_5, lw_okq q := List.forall_mem_cons.mpr ⟨lw_p64, List.forall_mem_cons.mpr ⟨lw_p65, List.forall_mem_cons.mpr ⟨lw_p66, List.forall_mem_cons.mpr ⟨lw_p67, List.forall_mem_cons.mpr ⟨lw_p68, List.forall_mem_cons.mpr ⟨lw_p69, List.forall_mem_cons.mpr ⟨lw_p70, List.forall_mem_cons.mpr ⟨lw_p71, List.forall_mem_cons.mpr ⟨lw_p72, List.forall_mem_cons.mpr ⟨lw_p73, List.forall_mem_cons.mpr ⟨lw_p74, List.forall_mem_cons.mpr ⟨lw_p75, List.forall_mem_cons.mpr ⟨lw_p76, List.forall_mem_cons.mpr ⟨lw_p77, List.forall_mem_cons.mpr ⟨lw_p78, List.forall_mem_cons.mpr ⟨lw_p79, fun _ h => absurd h List.not_mem_nil⟩⟩⟩⟩⟩⟩⟩⟩⟩⟩⟩⟩⟩⟩⟩⟩
theorem lw_p80 : lw_okq (⟨"CompactDiscModel", "discByte", "(II)I"⟩, 50) := ⟨⟨by decide +kernel, by decide +kernel⟩, List.mem_of_getElem? (i := 1013) (by decide +kernel), List.mem_of_getElem? (i := 1327) (by decide +kernel), List.mem_of_getElem? (i := 1328) (by decide +kernel)⟩
theorem lw_p81 : lw_okq (⟨"CompactDiscModel", "taken", "(II)I"⟩, 50) := ⟨⟨by decide +kernel, by decide +kernel⟩, List.mem_of_getElem? (i := 1013) (by decide +kernel), List.mem_of_getElem? (i := 1346) (by decide +kernel), List.mem_of_getElem? (i := 1347) (by decide +kernel)⟩
theorem lw_p82 : lw_okq (⟨"CompactDiscModel", "bit", "(I)I"⟩, 50) := ⟨⟨by decide +kernel, by decide +kernel⟩, List.mem_of_getElem? (i := 1013) (by decide +kernel), List.mem_of_getElem? (i := 1350) (by decide +kernel), List.mem_of_getElem? (i := 1351) (by decide +kernel)⟩
theorem lw_p83 : lw_okq (⟨"CompactDiscModel", "isSign", "(I)Z"⟩, 50) := ⟨⟨by decide +kernel, by decide +kernel⟩, List.mem_of_getElem? (i := 1013) (by decide +kernel), List.mem_of_getElem? (i := 1377) (by decide +kernel), List.mem_of_getElem? (i := 1378) (by decide +kernel)⟩
theorem lw_p84 : lw_okq (⟨"CompactDiscModel", "reached", "(II)I"⟩, 50) := ⟨⟨by decide +kernel, by decide +kernel⟩, List.mem_of_getElem? (i := 1013) (by decide +kernel), List.mem_of_getElem? (i := 1393) (by decide +kernel), List.mem_of_getElem? (i := 1394) (by decide +kernel)⟩
theorem lw_p85 : lw_okq (⟨"CompactDiscModel", "findFrames", "(I)V"⟩, 50) := ⟨⟨by decide +kernel, by decide +kernel⟩, List.mem_of_getElem? (i := 1013) (by decide +kernel), List.mem_of_getElem? (i := 1415) (by decide +kernel), List.mem_of_getElem? (i := 1416) (by decide +kernel)⟩
theorem lw_p86 : lw_okq (⟨"CompactDiscModel", "nextFrame", "(II)I"⟩, 50) := ⟨⟨by decide +kernel, by decide +kernel⟩, List.mem_of_getElem? (i := 1013) (by decide +kernel), List.mem_of_getElem? (i := 1419) (by decide +kernel), List.mem_of_getElem? (i := 1420) (by decide +kernel)⟩
theorem lw_p87 : lw_okq (⟨"CompactDiscModel", "playInner", "(II)V"⟩, 50) := ⟨⟨by decide +kernel, by decide +kernel⟩, List.mem_of_getElem? (i := 1013) (by decide +kernel), List.mem_of_getElem? (i := 1423) (by decide +kernel), List.mem_of_getElem? (i := 1424) (by decide +kernel)⟩
theorem lw_p88 : lw_okq (⟨"CompactDiscModel", "readInner", "(II)V"⟩, 50) := ⟨⟨by decide +kernel, by decide +kernel⟩, List.mem_of_getElem? (i := 1013) (by decide +kernel), List.mem_of_getElem? (i := 1427) (by decide +kernel), List.mem_of_getElem? (i := 1428) (by decide +kernel)⟩
theorem lw_p89 : lw_okq (⟨"CompactDiscModel", "playOuter", "(II)V"⟩, 50) := ⟨⟨by decide +kernel, by decide +kernel⟩, List.mem_of_getElem? (i := 1013) (by decide +kernel), List.mem_of_getElem? (i := 1431) (by decide +kernel), List.mem_of_getElem? (i := 1432) (by decide +kernel)⟩
theorem lw_p90 : lw_okq (⟨"CompactDiscModel", "takeFrame", "(I)V"⟩, 50) := ⟨⟨by decide +kernel, by decide +kernel⟩, List.mem_of_getElem? (i := 1013) (by decide +kernel), List.mem_of_getElem? (i := 1435) (by decide +kernel), List.mem_of_getElem? (i := 1436) (by decide +kernel)⟩
theorem lw_p91 : lw_okq (⟨"CompactDiscModel", "isThere", "(I)Z"⟩, 50) := ⟨⟨by decide +kernel, by decide +kernel⟩, List.mem_of_getElem? (i := 1013) (by decide +kernel), List.mem_of_getElem? (i := 1443) (by decide +kernel), List.mem_of_getElem? (i := 1444) (by decide +kernel)⟩
theorem lw_p92 : lw_okq (⟨"CompactDiscModel", "isSampleSure", "(IZ)Z"⟩, 50) := ⟨⟨by decide +kernel, by decide +kernel⟩, List.mem_of_getElem? (i := 1013) (by decide +kernel), List.mem_of_getElem? (i := 1456) (by decide +kernel), List.mem_of_getElem? (i := 1457) (by decide +kernel)⟩
theorem lw_p93 : lw_okq (⟨"CompactDiscModel", "sample", "(IZ)I"⟩, 50) := ⟨⟨by decide +kernel, by decide +kernel⟩, List.mem_of_getElem? (i := 1013) (by decide +kernel), List.mem_of_getElem? (i := 1463) (by decide +kernel), List.mem_of_getElem? (i := 1464) (by decide +kernel)⟩
theorem lw_p94 : lw_okq (⟨"CompactDiscModel", "hidden", "()I"⟩, 50) := ⟨⟨by decide +kernel, by decide +kernel⟩, List.mem_of_getElem? (i := 1013) (by decide +kernel), List.mem_of_getElem? (i := 1479) (by decide +kernel), List.mem_of_getElem? (i := 1480) (by decide +kernel)⟩
theorem lw_p95 : lw_okq (⟨"CompactDiscModel", "sections", "()I"⟩, 50) := ⟨⟨by decide +kernel, by decide +kernel⟩, List.mem_of_getElem? (i := 1013) (by decide +kernel), List.mem_of_getElem? (i := 1483) (by decide +kernel), List.mem_of_getElem? (i := 1484) (by decide +kernel)⟩
def lw_privs_6 : List (MethodName × Nat) := [(⟨"CompactDiscModel", "discByte", "(II)I"⟩, 50), (⟨"CompactDiscModel", "taken", "(II)I"⟩, 50), (⟨"CompactDiscModel", "bit", "(I)I"⟩, 50), (⟨"CompactDiscModel", "isSign", "(I)Z"⟩, 50), (⟨"CompactDiscModel", "reached", "(II)I"⟩, 50), (⟨"CompactDiscModel", "findFrames", "(I)V"⟩, 50), (⟨"CompactDiscModel", "nextFrame", "(II)I"⟩, 50), (⟨"CompactDiscModel", "playInner", "(II)V"⟩, 50), (⟨"CompactDiscModel", "readInner", "(II)V"⟩, 50), (⟨"CompactDiscModel", "playOuter", "(II)V"⟩, 50), (⟨"CompactDiscModel", "takeFrame", "(I)V"⟩, 50), (⟨"CompactDiscModel", "isThere", "(I)Z"⟩, 50), (⟨"CompactDiscModel", "isSampleSure", "(IZ)Z"⟩, 50), (⟨"CompactDiscModel", "sample", "(IZ)I"⟩, 50), (⟨"CompactDiscModel", "hidden", "()I"⟩, 50), (⟨"CompactDiscModel", "sections", "()I"⟩, 50)]
theorem lw_r6 : ∀ q ∈ lw_privs_6, lw_okq q := List.forall_mem_cons.mpr ⟨lw_p80, List.forall_mem_cons.mpr ⟨lw_p81, List.forall_mem_cons.mpr ⟨lw_p82, List.forall_mem_cons.mpr ⟨lw_p83, List.forall_mem_cons.mpr ⟨lw_p84, List.forall_mem_cons.mpr ⟨lw_p85, List.forall_mem_cons.mpr ⟨lw_p86, List.forall_mem_cons.mpr ⟨lw_p87, List.forall_mem_cons.mpr ⟨lw_p88, List.forall_mem_cons.mpr ⟨lw_p89, List.forall_mem_cons.mpr ⟨lw_p90, List.forall_mem_cons.mpr ⟨lw_p91, List.forall_mem_cons.mpr ⟨lw_p92, List.forall_mem_cons.mpr ⟨lw_p93, List.forall_mem_cons.mpr ⟨lw_p94, List.forall_mem_cons.mpr ⟨lw_p95, fun _ h => absurd h List.not_mem_nil⟩⟩⟩⟩⟩⟩⟩⟩⟩⟩⟩⟩⟩⟩⟩⟩
theorem lw_p96 : lw_okq (⟨"CompactDiscModel", "beginsSection", "(I)Z"⟩, 50) := ⟨⟨by decide +kernel, by decide +kernel⟩, List.mem_of_getElem? (i := 1013) (by decide +kernel), List.mem_of_getElem? (i := 1487) (by decide +kernel), List.mem_of_getElem? (i := 1488) (by decide +kernel)⟩
theorem lw_p97 : lw_okq (⟨"CompactDiscModel", "sectionAt", "(I)I"⟩, 50) := ⟨⟨by decide +kernel, by decide +kernel⟩, List.mem_of_getElem? (i := 1013) (by decide +kernel), List.mem_of_getElem? (i := 1495) (by decide +kernel), List.mem_of_getElem? (i := 1496) (by decide +kernel)⟩
theorem lw_p98 : lw_okq (⟨"CompactDiscModel", "isSound", "(I)Z"⟩, 50) := ⟨⟨by decide +kernel, by decide +kernel⟩, List.mem_of_getElem? (i := 1013) (by decide +kernel), List.mem_of_getElem? (i := 1500) (by decide +kernel), List.mem_of_getElem? (i := 1501) (by decide +kernel)⟩
theorem lw_p99 : lw_okq (⟨"CompactDiscModel", "channelBits", "(II)I"⟩, 50) := ⟨⟨by decide +kernel, by decide +kernel⟩, List.mem_of_getElem? (i := 1013) (by decide +kernel), List.mem_of_getElem? (i := 1504) (by decide +kernel), List.mem_of_getElem? (i := 1505) (by decide +kernel)⟩
theorem lw_p100 : lw_okq (⟨"CompactDiscModel", "isClock", "(I)Z"⟩, 50) := ⟨⟨by decide +kernel, by decide +kernel⟩, List.mem_of_getElem? (i := 1013) (by decide +kernel), List.mem_of_getElem? (i := 1508) (by decide +kernel), List.mem_of_getElem? (i := 1509) (by decide +kernel)⟩
theorem lw_p101 : lw_okq (⟨"CompactDiscModel", "twoFigures", "(I)I"⟩, 50) := ⟨⟨by decide +kernel, by decide +kernel⟩, List.mem_of_getElem? (i := 1013) (by decide +kernel), List.mem_of_getElem? (i := 1512) (by decide +kernel), List.mem_of_getElem? (i := 1513) (by decide +kernel)⟩
theorem lw_p102 : lw_okq (⟨"CompactDiscModel", "clockOf", "(I)I"⟩, 50) := ⟨⟨by decide +kernel, by decide +kernel⟩, List.mem_of_getElem? (i := 1013) (by decide +kernel), List.mem_of_getElem? (i := 1516) (by decide +kernel), List.mem_of_getElem? (i := 1517) (by decide +kernel)⟩
theorem lw_p103 : lw_okq (⟨"CompactDiscModel", "toBench", "(I)V"⟩, 50) := ⟨⟨by decide +kernel, by decide +kernel⟩, List.mem_of_getElem? (i := 1013) (by decide +kernel), List.mem_of_getElem? (i := 1552) (by decide +kernel), List.mem_of_getElem? (i := 1553) (by decide +kernel)⟩
def lw_privs_7 : List (MethodName × Nat) := [(⟨"CompactDiscModel", "beginsSection", "(I)Z"⟩, 50), (⟨"CompactDiscModel", "sectionAt", "(I)I"⟩, 50), (⟨"CompactDiscModel", "isSound", "(I)Z"⟩, 50), (⟨"CompactDiscModel", "channelBits", "(II)I"⟩, 50), (⟨"CompactDiscModel", "isClock", "(I)Z"⟩, 50), (⟨"CompactDiscModel", "twoFigures", "(I)I"⟩, 50), (⟨"CompactDiscModel", "clockOf", "(I)I"⟩, 50), (⟨"CompactDiscModel", "toBench", "(I)V"⟩, 50)]
theorem lw_r7 : ∀ q ∈ lw_privs_7, lw_okq q := List.forall_mem_cons.mpr ⟨lw_p96, List.forall_mem_cons.mpr ⟨lw_p97, List.forall_mem_cons.mpr ⟨lw_p98, List.forall_mem_cons.mpr ⟨lw_p99, List.forall_mem_cons.mpr ⟨lw_p100, List.forall_mem_cons.mpr ⟨lw_p101, List.forall_mem_cons.mpr ⟨lw_p102, List.forall_mem_cons.mpr ⟨lw_p103, fun _ h => absurd h List.not_mem_nil⟩⟩⟩⟩⟩⟩⟩⟩
def lw_privs : List (MethodName × Nat) := lw_privs_1 ++ (lw_privs_2 ++ (lw_privs_3 ++ (lw_privs_4 ++ (lw_privs_5 ++ (lw_privs_6 ++ (lw_privs_7))))))
def lw_tbl : List Cond := k2_sels lw_privs ++ tables_1
theorem lw_privs_ok : ∀ q ∈ lw_privs, lw_okq q := by
  show ∀ q ∈ lw_privs_1 ++ (lw_privs_2 ++ (lw_privs_3 ++ (lw_privs_4 ++ (lw_privs_5 ++ (lw_privs_6 ++ (lw_privs_7)))))), lw_okq q
  exact List.forall_mem_append.mpr ⟨lw_r1, List.forall_mem_append.mpr ⟨lw_r2, List.forall_mem_append.mpr ⟨lw_r3, List.forall_mem_append.mpr ⟨lw_r4, List.forall_mem_append.mpr ⟨lw_r5, List.forall_mem_append.mpr ⟨lw_r6, lw_r7⟩⟩⟩⟩⟩⟩

def RX0 : String := "CompactDisc$Code"
def TX0 : u_T := fun k => match k with
  | 0 => ("CompactDisc$Code", "field", "LCompactDisc$Field;", true)
  | 1 => ("CompactDisc$Code", "size", "I", true)
  | 2 => ("CompactDisc$Code", "firstCheck", "I", true)
  | 3 => ("CompactDisc$Code", "sums", "[I", true)
  | 4 => ("CompactDisc$Code", "spots", "[I", true)
  | 5 => ("CompactDisc$Code", "spotted", "I", false)
  | 6 => ("CompactDisc$Code", "locator", "[I", true)
  | _ => ("CompactDisc$Code", "rest", "[I", true)
def tyX0 : Nat → FieldType := fun k => match k with
  | 0 => .object "CompactDisc$Field"
  | 1 => .int
  | 2 => .int
  | 3 => .array .int
  | 4 => .array .int
  | 5 => .int
  | 6 => .array .int
  | _ => .array .int
abbrev wsX00 : List Cond := u_ws RX0 TX0 8
theorem nmX0 : ∀ a, a < 8 → ∀ b, b < 8 → a ≠ b → (TX0 a).2.1 ≠ (TX0 b).2.1 := by decide +kernel
theorem tyX0_ok : ∀ k, k < 8 → parseFieldDescriptor (TX0 k).2.2.1 = some (tyX0 k) := by decide +kernel
abbrev cX0_init : ByteArray := prog_2_method_1_code
def yX0_init : MethodName := ⟨RX0, "<init>", "(LCompactDisc$Field;II)V"⟩
abbrev cX0_allPlaces : ByteArray := prog_2_method_2_code
def yX0_allPlaces : MethodName := ⟨RX0, "allPlaces", "()I"⟩
abbrev cX0_fits : ByteArray := prog_2_method_3_code
def yX0_fits : MethodName := ⟨RX0, "fits", "([BI)Z"⟩
abbrev cX0_sumOf : ByteArray := prog_2_method_4_code
def yX0_sumOf : MethodName := ⟨RX0, "sumOf", "([BII)I"⟩
abbrev cX0_settle : ByteArray := prog_2_method_5_code
def yX0_settle : MethodName := ⟨RX0, "settle", "([BI)V"⟩
abbrev cX0_heal : ByteArray := prog_2_method_6_code
def yX0_heal : MethodName := ⟨RX0, "heal", "([BIII)I"⟩
abbrev cX0_addSpot : ByteArray := prog_2_method_7_code
def yX0_addSpot : MethodName := ⟨RX0, "addSpot", "(I)V"⟩
abbrev cX0_sumUp : ByteArray := prog_2_method_8_code
def yX0_sumUp : MethodName := ⟨RX0, "sumUp", "([BI)V"⟩
abbrev cX0_locate : ByteArray := prog_2_method_9_code
def yX0_locate : MethodName := ⟨RX0, "locate", "(II)Z"⟩
abbrev cX0_locateOne : ByteArray := prog_2_method_10_code
def yX0_locateOne : MethodName := ⟨RX0, "locateOne", "(II)Z"⟩
abbrev cX0_locateTwo : ByteArray := prog_2_method_11_code
def yX0_locateTwo : MethodName := ⟨RX0, "locateTwo", "()Z"⟩
abbrev cX0_spread : ByteArray := prog_2_method_12_code
def yX0_spread : MethodName := ⟨RX0, "spread", "(I)I"⟩
abbrev cX0_without : ByteArray := prog_2_method_13_code
def yX0_without : MethodName := ⟨RX0, "without", "(II)I"⟩
abbrev cX0_correct : ByteArray := prog_2_method_14_code
def yX0_correct : MethodName := ⟨RX0, "correct", "([BI)V"⟩
def RX1 : String := "CompactDisc$Contents"
def TX1 : u_T := fun k => match k with
  | 0 => ("CompactDisc$Contents", "sections", "[I", true)
  | 1 => ("CompactDisc$Contents", "controls", "[I", true)
  | 2 => ("CompactDisc$Contents", "tracks", "[I", true)
  | 3 => ("CompactDisc$Contents", "indexes", "[I", true)
  | 4 => ("CompactDisc$Contents", "entries", "I", false)
  | _ => ("CompactDisc$Contents", "start", "I", false)
def tyX1 : Nat → FieldType := fun k => match k with
  | 0 => .array .int
  | 1 => .array .int
  | 2 => .array .int
  | 3 => .array .int
  | 4 => .int
  | _ => .int
abbrev wsX10 : List Cond := u_ws RX1 TX1 6
theorem nmX1 : ∀ a, a < 6 → ∀ b, b < 6 → a ≠ b → (TX1 a).2.1 ≠ (TX1 b).2.1 := by decide +kernel
theorem tyX1_ok : ∀ k, k < 6 → parseFieldDescriptor (TX1 k).2.2.1 = some (tyX1 k) := by decide +kernel
abbrev cX1_init : ByteArray := prog_3_method_1_code
def yX1_init : MethodName := ⟨RX1, "<init>", "()V"⟩
abbrev cX1_startAt : ByteArray := prog_3_method_2_code
def yX1_startAt : MethodName := ⟨RX1, "startAt", "(I)V"⟩
abbrev cX1_add : ByteArray := prog_3_method_3_code
def yX1_add : MethodName := ⟨RX1, "add", "(IIII)I"⟩
abbrev cX1_clear : ByteArray := prog_3_method_4_code
def yX1_clear : MethodName := ⟨RX1, "clear", "()I"⟩
abbrev cX1_entryFor : ByteArray := prog_3_method_5_code
def yX1_entryFor : MethodName := ⟨RX1, "entryFor", "(I)I"⟩
abbrev cX1_isEntry : ByteArray := prog_3_method_6_code
def yX1_isEntry : MethodName := ⟨RX1, "isEntry", "(I)Z"⟩
abbrev cX1_controlOf : ByteArray := prog_3_method_7_code
def yX1_controlOf : MethodName := ⟨RX1, "controlOf", "(I)I"⟩
abbrev cX1_trackOf : ByteArray := prog_3_method_8_code
def yX1_trackOf : MethodName := ⟨RX1, "trackOf", "(I)I"⟩
abbrev cX1_indexOf : ByteArray := prog_3_method_9_code
def yX1_indexOf : MethodName := ⟨RX1, "indexOf", "(I)I"⟩
abbrev cX1_isPause : ByteArray := prog_3_method_10_code
def yX1_isPause : MethodName := ⟨RX1, "isPause", "(I)Z"⟩
abbrev cX1_belongs : ByteArray := prog_3_method_11_code
def yX1_belongs : MethodName := ⟨RX1, "belongs", "(II)Z"⟩
abbrev cX1_timeOf : ByteArray := prog_3_method_12_code
def yX1_timeOf : MethodName := ⟨RX1, "timeOf", "(II)I"⟩
abbrev cX1_describe : ByteArray := prog_3_method_13_code
def yX1_describe : MethodName := ⟨RX1, "describe", "(IILCompactDisc$Label;)V"⟩
def RX2 : String := "CompactDisc$Field"
def TX2 : u_T := fun k => match k with
  | 0 => ("CompactDisc$Field", "powers", "[I", true)
  | _ => ("CompactDisc$Field", "logs", "[I", true)
def tyX2 : Nat → FieldType := fun k => match k with
  | 0 => .array .int
  | _ => .array .int
abbrev wsX20 : List Cond := u_ws RX2 TX2 2
theorem nmX2 : ∀ a, a < 2 → ∀ b, b < 2 → a ≠ b → (TX2 a).2.1 ≠ (TX2 b).2.1 := by decide +kernel
theorem tyX2_ok : ∀ k, k < 2 → parseFieldDescriptor (TX2 k).2.2.1 = some (tyX2 k) := by decide +kernel
abbrev cX2_init : ByteArray := prog_4_method_1_code
def yX2_init : MethodName := ⟨RX2, "<init>", "()V"⟩
abbrev cX2_twice : ByteArray := prog_4_method_2_code
def yX2_twice : MethodName := ⟨RX2, "twice", "(I)I"⟩
abbrev cX2_power : ByteArray := prog_4_method_3_code
def yX2_power : MethodName := ⟨RX2, "power", "(I)I"⟩
abbrev cX2_log : ByteArray := prog_4_method_4_code
def yX2_log : MethodName := ⟨RX2, "log", "(I)I"⟩
abbrev cX2_times : ByteArray := prog_4_method_5_code
def yX2_times : MethodName := ⟨RX2, "times", "(II)I"⟩
abbrev cX2_over : ByteArray := prog_4_method_6_code
def yX2_over : MethodName := ⟨RX2, "over", "(II)I"⟩
def RX3 : String := "CompactDisc$Groove"
def TX3 : u_T := fun k => match k with
  | 0 => ("CompactDisc$Groove", "packed", "[I", true)
  | 1 => ("CompactDisc$Groove", "size", "I", false)
  | _ => ("CompactDisc$Groove", "pressed", "I", false)
def tyX3 : Nat → FieldType := fun k => match k with
  | 0 => .array .int
  | 1 => .int
  | _ => .int
abbrev wsX30 : List Cond := u_ws RX3 TX3 3
theorem nmX3 : ∀ a, a < 3 → ∀ b, b < 3 → a ≠ b → (TX3 a).2.1 ≠ (TX3 b).2.1 := by decide +kernel
theorem tyX3_ok : ∀ k, k < 3 → parseFieldDescriptor (TX3 k).2.2.1 = some (tyX3 k) := by decide +kernel
abbrev cX3_init : ByteArray := prog_5_method_1_code
def yX3_init : MethodName := ⟨RX3, "<init>", "()V"⟩
abbrev cX3_reset : ByteArray := prog_5_method_2_code
def yX3_reset : MethodName := ⟨RX3, "reset", "(I)V"⟩
abbrev cX3_size : ByteArray := prog_5_method_3_code
def yX3_size : MethodName := ⟨RX3, "size", "()I"⟩
abbrev cX3_framesPressed : ByteArray := prog_5_method_4_code
def yX3_framesPressed : MethodName := ⟨RX3, "framesPressed", "()I"⟩
abbrev cX3_wasPressed : ByteArray := prog_5_method_5_code
def yX3_wasPressed : MethodName := ⟨RX3, "wasPressed", "(I)Z"⟩
abbrev cX3_has : ByteArray := prog_5_method_6_code
def yX3_has : MethodName := ⟨RX3, "has", "(I)Z"⟩
abbrev cX3_cell : ByteArray := prog_5_method_7_code
def yX3_cell : MethodName := ⟨RX3, "cell", "(I)I"⟩
abbrev cX3_peek : ByteArray := prog_5_method_8_code
def yX3_peek : MethodName := ⟨RX3, "peek", "(I)I"⟩
abbrev cX3_wordAt : ByteArray := prog_5_method_9_code
def yX3_wordAt : MethodName := ⟨RX3, "wordAt", "(II)I"⟩
abbrev cX3_append : ByteArray := prog_5_method_10_code
def yX3_append : MethodName := ⟨RX3, "append", "(II)V"⟩
abbrev cX3_merge : ByteArray := prog_5_method_11_code
def yX3_merge : MethodName := ⟨RX3, "merge", "(II)V"⟩
abbrev cX3_turn : ByteArray := prog_5_method_12_code
def yX3_turn : MethodName := ⟨RX3, "turn", "(I)V"⟩
abbrev cX3_behind : ByteArray := prog_5_method_13_code
def yX3_behind : MethodName := ⟨RX3, "behind", "(II)I"⟩
abbrev cX3_blank : ByteArray := prog_5_method_14_code
def yX3_blank : MethodName := ⟨RX3, "blank", "(II)V"⟩
abbrev cX3_insertZeros : ByteArray := prog_5_method_15_code
def yX3_insertZeros : MethodName := ⟨RX3, "insertZeros", "(II)V"⟩
abbrev cX3_remove : ByteArray := prog_5_method_16_code
def yX3_remove : MethodName := ⟨RX3, "remove", "(II)V"⟩
abbrev cX3_rise : ByteArray := prog_5_method_17_code
def yX3_rise : MethodName := ⟨RX3, "rise", "(II)I"⟩
abbrev cX3_balanceBehind : ByteArray := prog_5_method_18_code
def yX3_balanceBehind : MethodName := ⟨RX3, "balanceBehind", "(I)I"⟩
abbrev cX3_extremeRun : ByteArray := prog_5_method_19_code
def yX3_extremeRun : MethodName := ⟨RX3, "extremeRun", "(Z)I"⟩
abbrev cX3_signStands : ByteArray := prog_5_method_20_code
def yX3_signStands : MethodName := ⟨RX3, "signStands", "(I)Z"⟩
abbrev cX3_nextSign : ByteArray := prog_5_method_21_code
def yX3_nextSign : MethodName := ⟨RX3, "nextSign", "(I)I"⟩
abbrev cX3_countSigns : ByteArray := prog_5_method_22_code
def yX3_countSigns : MethodName := ⟨RX3, "countSigns", "()I"⟩
abbrev cX3_findSign : ByteArray := prog_5_method_23_code
def yX3_findSign : MethodName := ⟨RX3, "findSign", "(I)I"⟩
def RX4 : String := "CompactDisc$Label"
def TX4 : u_T := fun k => match k with
  | _ => ("CompactDisc$Label", "octets", "[I", true)
def tyX4 : Nat → FieldType := fun k => match k with
  | _ => .array .int
abbrev wsX40 : List Cond := u_ws RX4 TX4 1
theorem nmX4 : ∀ a, a < 1 → ∀ b, b < 1 → a ≠ b → (TX4 a).2.1 ≠ (TX4 b).2.1 := by decide +kernel
theorem tyX4_ok : ∀ k, k < 1 → parseFieldDescriptor (TX4 k).2.2.1 = some (tyX4 k) := by decide +kernel
abbrev cX4_init : ByteArray := prog_6_method_1_code
def yX4_init : MethodName := ⟨RX4, "<init>", "()V"⟩
abbrev cX4_write : ByteArray := prog_6_method_2_code
def yX4_write : MethodName := ⟨RX4, "write", "(IIIII)V"⟩
abbrev cX4_writeTime : ByteArray := prog_6_method_3_code
def yX4_writeTime : MethodName := ⟨RX4, "writeTime", "(II)V"⟩
abbrev cX4_figures : ByteArray := prog_6_method_4_code
def yX4_figures : MethodName := ⟨RX4, "figures", "(I)I"⟩
abbrev cX4_restOf80 : ByteArray := prog_6_method_5_code
def yX4_restOf80 : MethodName := ⟨RX4, "restOf80", "()I"⟩
abbrev cX4_bitOf : ByteArray := prog_6_method_6_code
def yX4_bitOf : MethodName := ⟨RX4, "bitOf", "(I)I"⟩
abbrev cX4_setBit : ByteArray := prog_6_method_7_code
def yX4_setBit : MethodName := ⟨RX4, "setBit", "(II)V"⟩
abbrev cX4_isSound : ByteArray := prog_6_method_8_code
def yX4_isSound : MethodName := ⟨RX4, "isSound", "()Z"⟩
abbrev cX4_areFigures : ByteArray := prog_6_method_9_code
def yX4_areFigures : MethodName := ⟨RX4, "areFigures", "(I)Z"⟩
abbrev cX4_isTime : ByteArray := prog_6_method_10_code
def yX4_isTime : MethodName := ⟨RX4, "isTime", "(I)Z"⟩
abbrev cX4_number : ByteArray := prog_6_method_11_code
def yX4_number : MethodName := ⟨RX4, "number", "(I)I"⟩
abbrev cX4_timeOf : ByteArray := prog_6_method_12_code
def yX4_timeOf : MethodName := ⟨RX4, "timeOf", "(I)I"⟩
abbrev cX4_control : ByteArray := prog_6_method_13_code
def yX4_control : MethodName := ⟨RX4, "control", "()I"⟩
abbrev cX4_track : ByteArray := prog_6_method_14_code
def yX4_track : MethodName := ⟨RX4, "track", "()I"⟩
abbrev cX4_index : ByteArray := prog_6_method_15_code
def yX4_index : MethodName := ⟨RX4, "index", "()I"⟩
abbrev cX4_time : ByteArray := prog_6_method_16_code
def yX4_time : MethodName := ⟨RX4, "time", "()I"⟩
abbrev cX4_place : ByteArray := prog_6_method_17_code
def yX4_place : MethodName := ⟨RX4, "place", "()I"⟩
def RX5 : String := "CompactDisc$Player"
def TX5 : u_T := fun k => match k with
  | 0 => ("CompactDisc$Player", "rows", "LCompactDisc$Rows;", true)
  | 1 => ("CompactDisc$Player", "groove", "LCompactDisc$Groove;", true)
  | 2 => ("CompactDisc$Player", "speller", "LCompactDisc$Speller;", true)
  | 3 => ("CompactDisc$Player", "innerCode", "LCompactDisc$Code;", true)
  | 4 => ("CompactDisc$Player", "outerCode", "LCompactDisc$Code;", true)
  | 5 => ("CompactDisc$Player", "label", "LCompactDisc$Label;", true)
  | 6 => ("CompactDisc$Player", "starts", "[I", true)
  | 7 => ("CompactDisc$Player", "besides", "[I", true)
  | 8 => ("CompactDisc$Player", "innerFates", "[I", true)
  | 9 => ("CompactDisc$Player", "outerFates", "[I", true)
  | 10 => ("CompactDisc$Player", "samples", "[I", true)
  | 11 => ("CompactDisc$Player", "tallies", "[I", true)
  | 12 => ("CompactDisc$Player", "done", "Z", false)
  | 13 => ("CompactDisc$Player", "found", "I", false)
  | _ => ("CompactDisc$Player", "streamFrames", "I", false)
def tyX5 : Nat → FieldType := fun k => match k with
  | 0 => .object "CompactDisc$Rows"
  | 1 => .object "CompactDisc$Groove"
  | 2 => .object "CompactDisc$Speller"
  | 3 => .object "CompactDisc$Code"
  | 4 => .object "CompactDisc$Code"
  | 5 => .object "CompactDisc$Label"
  | 6 => .array .int
  | 7 => .array .int
  | 8 => .array .int
  | 9 => .array .int
  | 10 => .array .int
  | 11 => .array .int
  | 12 => .boolean
  | 13 => .int
  | _ => .int
abbrev wsX50 : List Cond := u_ws RX5 TX5 15
theorem nmX5 : ∀ a, a < 15 → ∀ b, b < 15 → a ≠ b → (TX5 a).2.1 ≠ (TX5 b).2.1 := by decide +kernel
theorem tyX5_ok : ∀ k, k < 15 → parseFieldDescriptor (TX5 k).2.2.1 = some (tyX5 k) := by decide +kernel
abbrev cX5_init : ByteArray := prog_7_method_1_code
def yX5_init : MethodName := ⟨RX5, "<init>", "(LCompactDisc$Rows;LCompactDisc$Groove;LCompactDisc$Speller;LCompactDisc$Code;LCompactDisc$Code;)V"⟩
abbrev cX5_forget : ByteArray := prog_7_method_2_code
def yX5_forget : MethodName := ⟨RX5, "forget", "()V"⟩
abbrev cX5_perform : ByteArray := prog_7_method_3_code
def yX5_perform : MethodName := ⟨RX5, "perform", "(III)I"⟩
abbrev cX5_findFrames : ByteArray := prog_7_method_4_code
def yX5_findFrames : MethodName := ⟨RX5, "findFrames", "(I)V"⟩
abbrev cX5_nextStart : ByteArray := prog_7_method_5_code
def yX5_nextStart : MethodName := ⟨RX5, "nextStart", "(II)I"⟩
abbrev cX5_readFrame : ByteArray := prog_7_method_6_code
def yX5_readFrame : MethodName := ⟨RX5, "readFrame", "(I)V"⟩
abbrev cX5_takeInnerWord : ByteArray := prog_7_method_7_code
def yX5_takeInnerWord : MethodName := ⟨RX5, "takeInnerWord", "(I)V"⟩
abbrev cX5_mendInner : ByteArray := prog_7_method_8_code
def yX5_mendInner : MethodName := ⟨RX5, "mendInner", "(II)V"⟩
abbrev cX5_takeOuterWord : ByteArray := prog_7_method_9_code
def yX5_takeOuterWord : MethodName := ⟨RX5, "takeOuterWord", "(I)I"⟩
abbrev cX5_mendOuter : ByteArray := prog_7_method_10_code
def yX5_mendOuter : MethodName := ⟨RX5, "mendOuter", "(III)V"⟩
abbrev cX5_hasByte : ByteArray := prog_7_method_11_code
def yX5_hasByte : MethodName := ⟨RX5, "hasByte", "(I)Z"⟩
abbrev cX5_rowOf : ByteArray := prog_7_method_12_code
def yX5_rowOf : MethodName := ⟨RX5, "rowOf", "(I)I"⟩
abbrev cX5_byteOf : ByteArray := prog_7_method_13_code
def yX5_byteOf : MethodName := ⟨RX5, "byteOf", "(I)I"⟩
abbrev cX5_sureOf : ByteArray := prog_7_method_14_code
def yX5_sureOf : MethodName := ⟨RX5, "sureOf", "(I)Z"⟩
abbrev cX5_countUnsure : ByteArray := prog_7_method_15_code
def yX5_countUnsure : MethodName := ⟨RX5, "countUnsure", "()V"⟩
abbrev cX5_highByteOf : ByteArray := prog_7_method_16_code
def yX5_highByteOf : MethodName := ⟨RX5, "highByteOf", "(II)I"⟩
abbrev cX5_isSample : ByteArray := prog_7_method_17_code
def yX5_isSample : MethodName := ⟨RX5, "isSample", "(I)Z"⟩
abbrev cX5_sampleSure : ByteArray := prog_7_method_18_code
def yX5_sampleSure : MethodName := ⟨RX5, "sampleSure", "(II)Z"⟩
abbrev cX5_sampleOf : ByteArray := prog_7_method_19_code
def yX5_sampleOf : MethodName := ⟨RX5, "sampleOf", "(II)I"⟩
abbrev cX5_hide : ByteArray := prog_7_method_20_code
def yX5_hide : MethodName := ⟨RX5, "hide", "(I)V"⟩
abbrev cX5_sampleHeard : ByteArray := prog_7_method_21_code
def yX5_sampleHeard : MethodName := ⟨RX5, "sampleHeard", "(IZ)I"⟩
abbrev cX5_wasFound : ByteArray := prog_7_method_22_code
def yX5_wasFound : MethodName := ⟨RX5, "wasFound", "(I)Z"⟩
abbrev cX5_innerFate : ByteArray := prog_7_method_23_code
def yX5_innerFate : MethodName := ⟨RX5, "innerFate", "(I)I"⟩
abbrev cX5_outerFate : ByteArray := prog_7_method_24_code
def yX5_outerFate : MethodName := ⟨RX5, "outerFate", "(I)I"⟩
abbrev cX5_tally : ByteArray := prog_7_method_25_code
def yX5_tally : MethodName := ⟨RX5, "tally", "(I)I"⟩
abbrev cX5_beginsSection : ByteArray := prog_7_method_26_code
def yX5_beginsSection : MethodName := ⟨RX5, "beginsSection", "(I)Z"⟩
abbrev cX5_countSections : ByteArray := prog_7_method_27_code
def yX5_countSections : MethodName := ⟨RX5, "countSections", "()I"⟩
abbrev cX5_sectionStart : ByteArray := prog_7_method_28_code
def yX5_sectionStart : MethodName := ⟨RX5, "sectionStart", "(I)I"⟩
abbrev cX5_sectionTells : ByteArray := prog_7_method_29_code
def yX5_sectionTells : MethodName := ⟨RX5, "sectionTells", "(II)I"⟩
abbrev cX5_readLabel : ByteArray := prog_7_method_30_code
def yX5_readLabel : MethodName := ⟨RX5, "readLabel", "(I)I"⟩
def RX6 : String := "CompactDisc$Presser"
def TX6 : u_T := fun k => match k with
  | 0 => ("CompactDisc$Presser", "rows", "LCompactDisc$Rows;", true)
  | 1 => ("CompactDisc$Presser", "groove", "LCompactDisc$Groove;", true)
  | 2 => ("CompactDisc$Presser", "speller", "LCompactDisc$Speller;", true)
  | 3 => ("CompactDisc$Presser", "innerCode", "LCompactDisc$Code;", true)
  | 4 => ("CompactDisc$Presser", "outerCode", "LCompactDisc$Code;", true)
  | 5 => ("CompactDisc$Presser", "contents", "LCompactDisc$Contents;", true)
  | 6 => ("CompactDisc$Presser", "label", "LCompactDisc$Label;", true)
  | 7 => ("CompactDisc$Presser", "recent", "J", false)
  | 8 => ("CompactDisc$Presser", "gap", "I", false)
  | 9 => ("CompactDisc$Presser", "sum", "I", false)
  | _ => ("CompactDisc$Presser", "level", "I", false)
def tyX6 : Nat → FieldType := fun k => match k with
  | 0 => .object "CompactDisc$Rows"
  | 1 => .object "CompactDisc$Groove"
  | 2 => .object "CompactDisc$Speller"
  | 3 => .object "CompactDisc$Code"
  | 4 => .object "CompactDisc$Code"
  | 5 => .object "CompactDisc$Contents"
  | 6 => .object "CompactDisc$Label"
  | 7 => .long
  | 8 => .int
  | 9 => .int
  | _ => .int
abbrev wsX60 : List Cond := u_ws RX6 TX6 11
theorem nmX6 : ∀ a, a < 11 → ∀ b, b < 11 → a ≠ b → (TX6 a).2.1 ≠ (TX6 b).2.1 := by decide +kernel
theorem tyX6_ok : ∀ k, k < 11 → parseFieldDescriptor (TX6 k).2.2.1 = some (tyX6 k) := by decide +kernel
abbrev cX6_init : ByteArray := prog_8_method_1_code
def yX6_init : MethodName := ⟨RX6, "<init>", "(LCompactDisc$Rows;LCompactDisc$Groove;LCompactDisc$Speller;LCompactDisc$Code;LCompactDisc$Code;LCompactDisc$Contents;)V"⟩
abbrev cX6_pressStream : ByteArray := prog_8_method_2_code
def yX6_pressStream : MethodName := ⟨RX6, "pressStream", "([BI)I"⟩
abbrev cX6_makeOuterWords : ByteArray := prog_8_method_3_code
def yX6_makeOuterWords : MethodName := ⟨RX6, "makeOuterWords", "([BII)V"⟩
abbrev cX6_makeInnerWords : ByteArray := prog_8_method_4_code
def yX6_makeInnerWords : MethodName := ⟨RX6, "makeInnerWords", "(I)V"⟩
abbrev cX6_makeFrames : ByteArray := prog_8_method_5_code
def yX6_makeFrames : MethodName := ⟨RX6, "makeFrames", "(I)V"⟩
abbrev cX6_cut : ByteArray := prog_8_method_6_code
def yX6_cut : MethodName := ⟨RX6, "cut", "(I)V"⟩
abbrev cX6_startGroove : ByteArray := prog_8_method_7_code
def yX6_startGroove : MethodName := ⟨RX6, "startGroove", "()V"⟩
abbrev cX6_wordBeside : ByteArray := prog_8_method_8_code
def yX6_wordBeside : MethodName := ⟨RX6, "wordBeside", "(I)I"⟩
abbrev cX6_carveJoined : ByteArray := prog_8_method_9_code
def yX6_carveJoined : MethodName := ⟨RX6, "carveJoined", "(II)V"⟩
abbrev cX6_carve : ByteArray := prog_8_method_10_code
def yX6_carve : MethodName := ⟨RX6, "carve", "(II)V"⟩
abbrev cX6_zerosBehind : ByteArray := prog_8_method_11_code
def yX6_zerosBehind : MethodName := ⟨RX6, "zerosBehind", "(II)I"⟩
abbrev cX6_zerosAhead : ByteArray := prog_8_method_12_code
def yX6_zerosAhead : MethodName := ⟨RX6, "zerosAhead", "(II)I"⟩
abbrev cX6_chooseJoint : ByteArray := prog_8_method_13_code
def yX6_chooseJoint : MethodName := ⟨RX6, "chooseJoint", "(II)I"⟩
abbrev cX6_mayBe : ByteArray := prog_8_method_14_code
def yX6_mayBe : MethodName := ⟨RX6, "mayBe", "(II)Z"⟩
abbrev cX6_isRun : ByteArray := prog_8_method_15_code
def yX6_isRun : MethodName := ⟨RX6, "isRun", "(I)Z"⟩
abbrev cX6_mocks : ByteArray := prog_8_method_16_code
def yX6_mocks : MethodName := ⟨RX6, "mocks", "(II)Z"⟩
def RX7 : String := "CompactDisc$Rows"
def TX7 : u_T := fun k => match k with
  | 0 => ("CompactDisc$Rows", "cells", "[B", true)
  | _ => ("CompactDisc$Rows", "marks", "[I", true)
def tyX7 : Nat → FieldType := fun k => match k with
  | 0 => .array .byte
  | _ => .array .int
abbrev wsX70 : List Cond := u_ws RX7 TX7 2
theorem nmX7 : ∀ a, a < 2 → ∀ b, b < 2 → a ≠ b → (TX7 a).2.1 ≠ (TX7 b).2.1 := by decide +kernel
theorem tyX7_ok : ∀ k, k < 2 → parseFieldDescriptor (TX7 k).2.2.1 = some (tyX7 k) := by decide +kernel
abbrev cX7_init : ByteArray := prog_9_method_1_code
def yX7_init : MethodName := ⟨RX7, "<init>", "()V"⟩
abbrev cX7_cells : ByteArray := prog_9_method_2_code
def yX7_cells : MethodName := ⟨RX7, "cells", "()[B"⟩
abbrev cX7_startOf : ByteArray := prog_9_method_3_code
def yX7_startOf : MethodName := ⟨RX7, "startOf", "(I)I"⟩
abbrev cX7_empty : ByteArray := prog_9_method_4_code
def yX7_empty : MethodName := ⟨RX7, "empty", "()V"⟩
abbrev cX7_isCell : ByteArray := prog_9_method_5_code
def yX7_isCell : MethodName := ⟨RX7, "isCell", "(II)Z"⟩
abbrev cX7_get : ByteArray := prog_9_method_6_code
def yX7_get : MethodName := ⟨RX7, "get", "(II)I"⟩
abbrev cX7_set : ByteArray := prog_9_method_7_code
def yX7_set : MethodName := ⟨RX7, "set", "(III)V"⟩
abbrev cX7_marksOf : ByteArray := prog_9_method_8_code
def yX7_marksOf : MethodName := ⟨RX7, "marksOf", "(I)I"⟩
abbrev cX7_setMarks : ByteArray := prog_9_method_9_code
def yX7_setMarks : MethodName := ⟨RX7, "setMarks", "(II)V"⟩
abbrev cX7_isMarked : ByteArray := prog_9_method_10_code
def yX7_isMarked : MethodName := ⟨RX7, "isMarked", "(II)Z"⟩
abbrev cX7_isTurned : ByteArray := prog_9_method_11_code
def yX7_isTurned : MethodName := ⟨RX7, "isTurned", "(I)Z"⟩
abbrev cX7_placeOf : ByteArray := prog_9_method_12_code
def yX7_placeOf : MethodName := ⟨RX7, "placeOf", "(I)I"⟩
abbrev cX7_lagOf : ByteArray := prog_9_method_13_code
def yX7_lagOf : MethodName := ⟨RX7, "lagOf", "(I)I"⟩
def RX8 : String := "CompactDisc$Speller"
def TX8 : u_T := fun k => match k with
  | 0 => ("CompactDisc$Speller", "kinds", "[I", true)
  | _ => ("CompactDisc$Speller", "square", "[I", true)
def tyX8 : Nat → FieldType := fun k => match k with
  | 0 => .array .int
  | _ => .array .int
abbrev wsX80 : List Cond := u_ws RX8 TX8 2
theorem nmX8 : ∀ a, a < 2 → ∀ b, b < 2 → a ≠ b → (TX8 a).2.1 ≠ (TX8 b).2.1 := by decide +kernel
theorem tyX8_ok : ∀ k, k < 2 → parseFieldDescriptor (TX8 k).2.2.1 = some (tyX8 k) := by decide +kernel
abbrev cX8_init : ByteArray := prog_10_method_1_code
def yX8_init : MethodName := ⟨RX8, "<init>", "()V"⟩
abbrev cX8_wordOf : ByteArray := prog_10_method_2_code
def yX8_wordOf : MethodName := ⟨RX8, "wordOf", "(I)I"⟩
abbrev cX8_byteOf : ByteArray := prog_10_method_3_code
def yX8_byteOf : MethodName := ⟨RX8, "byteOf", "(I)I"⟩
def RX9 : String := "CompactDisc"
def TX9 : u_T := fun k => match k with
  | 0 => ("CompactDisc", "stream", "[B", true)
  | 1 => ("CompactDisc", "fed", "I", false)
  | 2 => ("CompactDisc", "contents", "LCompactDisc$Contents;", true)
  | 3 => ("CompactDisc", "speller", "LCompactDisc$Speller;", true)
  | 4 => ("CompactDisc", "innerCode", "LCompactDisc$Code;", true)
  | 5 => ("CompactDisc", "outerCode", "LCompactDisc$Code;", true)
  | 6 => ("CompactDisc", "groove", "LCompactDisc$Groove;", true)
  | 7 => ("CompactDisc", "presser", "LCompactDisc$Presser;", true)
  | 8 => ("CompactDisc", "player", "LCompactDisc$Player;", true)
  | 9 => ("CompactDisc", "bench", "[B", true)
  | _ => ("CompactDisc", "benchMarks", "I", false)
def tyX9 : Nat → FieldType := fun k => match k with
  | 0 => .array .byte
  | 1 => .int
  | 2 => .object "CompactDisc$Contents"
  | 3 => .object "CompactDisc$Speller"
  | 4 => .object "CompactDisc$Code"
  | 5 => .object "CompactDisc$Code"
  | 6 => .object "CompactDisc$Groove"
  | 7 => .object "CompactDisc$Presser"
  | 8 => .object "CompactDisc$Player"
  | 9 => .array .byte
  | _ => .int
abbrev wsX90 : List Cond := u_ws RX9 TX9 11
theorem nmX9 : ∀ a, a < 11 → ∀ b, b < 11 → a ≠ b → (TX9 a).2.1 ≠ (TX9 b).2.1 := by decide +kernel
theorem tyX9_ok : ∀ k, k < 11 → parseFieldDescriptor (TX9 k).2.2.1 = some (tyX9 k) := by decide +kernel
abbrev cX9_init : ByteArray := prog_1_method_1_code
def yX9_init : MethodName := ⟨RX9, "<init>", "()V"⟩
abbrev cX9_feed : ByteArray := prog_1_method_2_code
def yX9_feed : MethodName := ⟨RX9, "feed", "(JI)I"⟩
abbrev cX9_fill : ByteArray := prog_1_method_3_code
def yX9_fill : MethodName := ⟨RX9, "fill", "(II)I"⟩
abbrev cX9_addByte : ByteArray := prog_1_method_4_code
def yX9_addByte : MethodName := ⟨RX9, "addByte", "(I)V"⟩
abbrev cX9_nextNoise : ByteArray := prog_1_method_5_code
def yX9_nextNoise : MethodName := ⟨RX9, "nextNoise", "(I)I"⟩
abbrev cX9_wipe : ByteArray := prog_1_method_6_code
def yX9_wipe : MethodName := ⟨RX9, "wipe", "()I"⟩
abbrev cX9_streamAt : ByteArray := prog_1_method_7_code
def yX9_streamAt : MethodName := ⟨RX9, "streamAt", "(I)I"⟩
abbrev cX9_begin : ByteArray := prog_1_method_8_code
def yX9_begin : MethodName := ⟨RX9, "begin", "(I)Z"⟩
abbrev cX9_entry : ByteArray := prog_1_method_9_code
def yX9_entry : MethodName := ⟨RX9, "entry", "(IIII)I"⟩
abbrev cX9_plain : ByteArray := prog_1_method_10_code
def yX9_plain : MethodName := ⟨RX9, "plain", "()I"⟩
abbrev cX9_press : ByteArray := prog_1_method_11_code
def yX9_press : MethodName := ⟨RX9, "press", "()I"⟩
abbrev cX9_frames : ByteArray := prog_1_method_12_code
def yX9_frames : MethodName := ⟨RX9, "frames", "()I"⟩
abbrev cX9_length : ByteArray := prog_1_method_13_code
def yX9_length : MethodName := ⟨RX9, "length", "()I"⟩
abbrev cX9_bits : ByteArray := prog_1_method_14_code
def yX9_bits : MethodName := ⟨RX9, "bits", "(I)I"⟩
abbrev cX9_word : ByteArray := prog_1_method_15_code
def yX9_word : MethodName := ⟨RX9, "word", "(II)I"⟩
abbrev cX9_joint : ByteArray := prog_1_method_16_code
def yX9_joint : MethodName := ⟨RX9, "joint", "(II)I"⟩
abbrev cX9_balance : ByteArray := prog_1_method_17_code
def yX9_balance : MethodName := ⟨RX9, "balance", "(I)I"⟩
abbrev cX9_run : ByteArray := prog_1_method_18_code
def yX9_run : MethodName := ⟨RX9, "run", "(Z)I"⟩
abbrev cX9_signs : ByteArray := prog_1_method_19_code
def yX9_signs : MethodName := ⟨RX9, "signs", "()I"⟩
abbrev cX9_signAt : ByteArray := prog_1_method_20_code
def yX9_signAt : MethodName := ⟨RX9, "signAt", "(I)I"⟩
abbrev cX9_flip : ByteArray := prog_1_method_21_code
def yX9_flip : MethodName := ⟨RX9, "flip", "(I)Z"⟩
abbrev cX9_scratch : ByteArray := prog_1_method_22_code
def yX9_scratch : MethodName := ⟨RX9, "scratch", "(II)I"⟩
abbrev cX9_noise : ByteArray := prog_1_method_23_code
def yX9_noise : MethodName := ⟨RX9, "noise", "(III)I"⟩
abbrev cX9_canSpoil : ByteArray := prog_1_method_24_code
def yX9_canSpoil : MethodName := ⟨RX9, "canSpoil", "(II)Z"⟩
abbrev cX9_slip : ByteArray := prog_1_method_25_code
def yX9_slip : MethodName := ⟨RX9, "slip", "(II)I"⟩
abbrev cX9_play : ByteArray := prog_1_method_26_code
def yX9_play : MethodName := ⟨RX9, "play", "(III)I"⟩
abbrev cX9_isReach : ByteArray := prog_1_method_27_code
def yX9_isReach : MethodName := ⟨RX9, "isReach", "(I)Z"⟩
abbrev cX9_played : ByteArray := prog_1_method_28_code
def yX9_played : MethodName := ⟨RX9, "played", "(I)I"⟩
abbrev cX9_isSure : ByteArray := prog_1_method_29_code
def yX9_isSure : MethodName := ⟨RX9, "isSure", "(I)Z"⟩
abbrev cX9_heard : ByteArray := prog_1_method_30_code
def yX9_heard : MethodName := ⟨RX9, "heard", "(IZ)I"⟩
abbrev cX9_inner : ByteArray := prog_1_method_31_code
def yX9_inner : MethodName := ⟨RX9, "inner", "(I)I"⟩
abbrev cX9_outer : ByteArray := prog_1_method_32_code
def yX9_outer : MethodName := ⟨RX9, "outer", "(I)I"⟩
abbrev cX9_told : ByteArray := prog_1_method_33_code
def yX9_told : MethodName := ⟨RX9, "told", "(I)I"⟩
abbrev cX9_q : ByteArray := prog_1_method_34_code
def yX9_q : MethodName := ⟨RX9, "q", "(II)I"⟩
abbrev cX9_burst : ByteArray := prog_1_method_35_code
def yX9_burst : MethodName := ⟨RX9, "burst", "(I)I"⟩
abbrev cX9_spell : ByteArray := prog_1_method_36_code
def yX9_spell : MethodName := ⟨RX9, "spell", "(I)I"⟩
abbrev cX9_read : ByteArray := prog_1_method_37_code
def yX9_read : MethodName := ⟨RX9, "read", "(I)I"⟩
abbrev cX9_put : ByteArray := prog_1_method_38_code
def yX9_put : MethodName := ⟨RX9, "put", "(II)I"⟩
abbrev cX9_mark : ByteArray := prog_1_method_39_code
def yX9_mark : MethodName := ⟨RX9, "mark", "(IZ)Z"⟩
abbrev cX9_at : ByteArray := prog_1_method_40_code
def yX9_at : MethodName := ⟨RX9, "at", "(I)I"⟩
abbrev cX9_isBench : ByteArray := prog_1_method_41_code
def yX9_isBench : MethodName := ⟨RX9, "isBench", "(I)Z"⟩
abbrev cX9_codeOf : ByteArray := prog_1_method_42_code
def yX9_codeOf : MethodName := ⟨RX9, "codeOf", "(Z)LCompactDisc$Code;"⟩
abbrev cX9_seal : ByteArray := prog_1_method_43_code
def yX9_seal : MethodName := ⟨RX9, "seal", "(Z)V"⟩
abbrev cX9_syndrome : ByteArray := prog_1_method_44_code
def yX9_syndrome : MethodName := ⟨RX9, "syndrome", "(ZI)I"⟩
abbrev cX9_mend : ByteArray := prog_1_method_45_code
def yX9_mend : MethodName := ⟨RX9, "mend", "(ZI)I"⟩
def RX10 : String := "CompactDiscModel"
def TX10 : u_T := fun k => match k with
  | 0 => ("CompactDiscModel", "thrown", "I", false)
  | 1 => ("CompactDiscModel", "words", "[I", true)
  | 2 => ("CompactDiscModel", "bytesOf", "[I", true)
  | 3 => ("CompactDiscModel", "powers", "[I", true)
  | 4 => ("CompactDiscModel", "logs", "[I", true)
  | 5 => ("CompactDiscModel", "stream", "[B", true)
  | 6 => ("CompactDiscModel", "size", "I", false)
  | 7 => ("CompactDiscModel", "begins", "I", false)
  | 8 => ("CompactDiscModel", "entries", "I", false)
  | 9 => ("CompactDiscModel", "entrySection", "[I", true)
  | 10 => ("CompactDiscModel", "entryControl", "[I", true)
  | 11 => ("CompactDiscModel", "entryTrack", "[I", true)
  | 12 => ("CompactDiscModel", "entryIndex", "[I", true)
  | 13 => ("CompactDiscModel", "bits", "[B", true)
  | 14 => ("CompactDiscModel", "length", "I", false)
  | 15 => ("CompactDiscModel", "pressed", "I", false)
  | 16 => ("CompactDiscModel", "streamFrames", "I", false)
  | 17 => ("CompactDiscModel", "zeros", "I", false)
  | 18 => ("CompactDiscModel", "level", "I", false)
  | 19 => ("CompactDiscModel", "sum", "I", false)
  | 20 => ("CompactDiscModel", "tail", "I", false)
  | 21 => ("CompactDiscModel", "channel", "[I", true)
  | 22 => ("CompactDiscModel", "word", "[I", true)
  | 23 => ("CompactDiscModel", "marked", "[Z", true)
  | 24 => ("CompactDiscModel", "syndromes", "[I", true)
  | 25 => ("CompactDiscModel", "places", "[I", true)
  | 26 => ("CompactDiscModel", "values", "[I", true)
  | 27 => ("CompactDiscModel", "rows", "[I", true)
  | 28 => ("CompactDiscModel", "inners", "[I", true)
  | 29 => ("CompactDiscModel", "innerMarks", "[Z", true)
  | 30 => ("CompactDiscModel", "innerTold", "[I", true)
  | 31 => ("CompactDiscModel", "outers", "[I", true)
  | 32 => ("CompactDiscModel", "outerMarks", "[Z", true)
  | 33 => ("CompactDiscModel", "outerTold", "[I", true)
  | 34 => ("CompactDiscModel", "isPlayed", "Z", false)
  | 35 => ("CompactDiscModel", "found", "I", false)
  | 36 => ("CompactDiscModel", "foundAt", "[I", true)
  | 37 => ("CompactDiscModel", "beside", "[I", true)
  | 38 => ("CompactDiscModel", "strange", "I", false)
  | 39 => ("CompactDiscModel", "innerFails", "I", false)
  | 40 => ("CompactDiscModel", "outerFails", "I", false)
  | 41 => ("CompactDiscModel", "mostMarks", "I", false)
  | 42 => ("CompactDiscModel", "got", "[I", true)
  | 43 => ("CompactDiscModel", "sure", "[Z", true)
  | 44 => ("CompactDiscModel", "unsure", "I", false)
  | 45 => ("CompactDiscModel", "bench", "[I", true)
  | 46 => ("CompactDiscModel", "benchMarks", "[Z", true)
  | 47 => ("CompactDiscModel", "may", "Z", false)
  | 48 => ("CompactDiscModel", "mocks", "Z", false)
  | _ => ("CompactDiscModel", "sumThen", "I", false)
def tyX10 : Nat → FieldType := fun k => match k with
  | 0 => .int
  | 1 => .array .int
  | 2 => .array .int
  | 3 => .array .int
  | 4 => .array .int
  | 5 => .array .byte
  | 6 => .int
  | 7 => .int
  | 8 => .int
  | 9 => .array .int
  | 10 => .array .int
  | 11 => .array .int
  | 12 => .array .int
  | 13 => .array .byte
  | 14 => .int
  | 15 => .int
  | 16 => .int
  | 17 => .int
  | 18 => .int
  | 19 => .int
  | 20 => .int
  | 21 => .array .int
  | 22 => .array .int
  | 23 => .array .boolean
  | 24 => .array .int
  | 25 => .array .int
  | 26 => .array .int
  | 27 => .array .int
  | 28 => .array .int
  | 29 => .array .boolean
  | 30 => .array .int
  | 31 => .array .int
  | 32 => .array .boolean
  | 33 => .array .int
  | 34 => .boolean
  | 35 => .int
  | 36 => .array .int
  | 37 => .array .int
  | 38 => .int
  | 39 => .int
  | 40 => .int
  | 41 => .int
  | 42 => .array .int
  | 43 => .array .boolean
  | 44 => .int
  | 45 => .array .int
  | 46 => .array .boolean
  | 47 => .boolean
  | 48 => .boolean
  | _ => .int
abbrev wsX100 : List Cond := u_ws RX10 TX10 50
theorem nmX10 : ∀ a, a < 50 → ∀ b, b < 50 → a ≠ b → (TX10 a).2.1 ≠ (TX10 b).2.1 := by decide +kernel
theorem tyX10_ok : ∀ k, k < 50 → parseFieldDescriptor (TX10 k).2.2.1 = some (tyX10 k) := by decide +kernel
abbrev cX10_init : ByteArray := prog_12_method_1_code
def yX10_init : MethodName := ⟨RX10, "<init>", "()V"⟩
abbrev cX10_in : ByteArray := prog_12_method_3_code
def yX10_in : MethodName := ⟨RX10, "in", "(JJJ)Z"⟩
abbrev cX10_times : ByteArray := prog_12_method_4_code
def yX10_times : MethodName := ⟨RX10, "times", "(II)I"⟩
abbrev cX10_inverse : ByteArray := prog_12_method_5_code
def yX10_inverse : MethodName := ⟨RX10, "inverse", "(I)I"⟩
abbrev cX10_power : ByteArray := prog_12_method_6_code
def yX10_power : MethodName := ⟨RX10, "power", "(III)I"⟩
abbrev cX10_findSyndromes : ByteArray := prog_12_method_7_code
def yX10_findSyndromes : MethodName := ⟨RX10, "findSyndromes", "(I)V"⟩
abbrev cX10_swapRows : ByteArray := prog_12_method_8_code
def yX10_swapRows : MethodName := ⟨RX10, "swapRows", "(II)V"⟩
abbrev cX10_fits : ByteArray := prog_12_method_9_code
def yX10_fits : MethodName := ⟨RX10, "fits", "(II)Z"⟩
abbrev cX10_changed : ByteArray := prog_12_method_10_code
def yX10_changed : MethodName := ⟨RX10, "changed", "(I)I"⟩
abbrev cX10_findTwo : ByteArray := prog_12_method_11_code
def yX10_findTwo : MethodName := ⟨RX10, "findTwo", "(I)Z"⟩
abbrev cX10_mended : ByteArray := prog_12_method_12_code
def yX10_mended : MethodName := ⟨RX10, "mended", "(II)I"⟩
abbrev cX10_isCheck : ByteArray := prog_12_method_13_code
def yX10_isCheck : MethodName := ⟨RX10, "isCheck", "(ZI)Z"⟩
abbrev cX10_check : ByteArray := prog_12_method_14_code
def yX10_check : MethodName := ⟨RX10, "check", "(Z)V"⟩
abbrev cX10_feed : ByteArray := prog_12_method_15_code
def yX10_feed : MethodName := ⟨RX10, "feed", "(JI)I"⟩
abbrev cX10_fill : ByteArray := prog_12_method_16_code
def yX10_fill : MethodName := ⟨RX10, "fill", "(II)I"⟩
abbrev cX10_wipe : ByteArray := prog_12_method_17_code
def yX10_wipe : MethodName := ⟨RX10, "wipe", "()I"⟩
abbrev cX10_streamAt : ByteArray := prog_12_method_18_code
def yX10_streamAt : MethodName := ⟨RX10, "streamAt", "(I)I"⟩
abbrev cX10_begin : ByteArray := prog_12_method_19_code
def yX10_begin : MethodName := ⟨RX10, "begin", "(I)Z"⟩
abbrev cX10_entry : ByteArray := prog_12_method_20_code
def yX10_entry : MethodName := ⟨RX10, "entry", "(IIII)I"⟩
abbrev cX10_plain : ByteArray := prog_12_method_21_code
def yX10_plain : MethodName := ⟨RX10, "plain", "()I"⟩
abbrev cX10_streamByte : ByteArray := prog_12_method_22_code
def yX10_streamByte : MethodName := ⟨RX10, "streamByte", "(II)I"⟩
abbrev cX10_byteAt : ByteArray := prog_12_method_23_code
def yX10_byteAt : MethodName := ⟨RX10, "byteAt", "(I)I"⟩
abbrev cX10_makeOuter : ByteArray := prog_12_method_24_code
def yX10_makeOuter : MethodName := ⟨RX10, "makeOuter", "(I)V"⟩
abbrev cX10_makeInner : ByteArray := prog_12_method_25_code
def yX10_makeInner : MethodName := ⟨RX10, "makeInner", "(I)V"⟩
abbrev cX10_isTurned : ByteArray := prog_12_method_26_code
def yX10_isTurned : MethodName := ⟨RX10, "isTurned", "(I)Z"⟩
abbrev cX10_discByte : ByteArray := prog_12_method_27_code
def yX10_discByte : MethodName := ⟨RX10, "discByte", "(II)I"⟩
abbrev cX10_layBits : ByteArray := prog_12_method_28_code
def yX10_layBits : MethodName := ⟨RX10, "layBits", "(II)V"⟩
abbrev cX10_tryJoint : ByteArray := prog_12_method_29_code
def yX10_tryJoint : MethodName := ⟨RX10, "tryJoint", "(III)V"⟩
abbrev cX10_jointFor : ByteArray := prog_12_method_30_code
def yX10_jointFor : MethodName := ⟨RX10, "jointFor", "(II)I"⟩
abbrev cX10_layWord : ByteArray := prog_12_method_31_code
def yX10_layWord : MethodName := ⟨RX10, "layWord", "(II)V"⟩
abbrev cX10_entryFor : ByteArray := prog_12_method_32_code
def yX10_entryFor : MethodName := ⟨RX10, "entryFor", "(I)I"⟩
abbrev cX10_trackOf : ByteArray := prog_12_method_33_code
def yX10_trackOf : MethodName := ⟨RX10, "trackOf", "(I)I"⟩
abbrev cX10_indexOf : ByteArray := prog_12_method_34_code
def yX10_indexOf : MethodName := ⟨RX10, "indexOf", "(I)I"⟩
abbrev cX10_timeOf : ByteArray := prog_12_method_35_code
def yX10_timeOf : MethodName := ⟨RX10, "timeOf", "(I)I"⟩
abbrev cX10_figures : ByteArray := prog_12_method_36_code
def yX10_figures : MethodName := ⟨RX10, "figures", "(II)I"⟩
abbrev cX10_clock : ByteArray := prog_12_method_37_code
def yX10_clock : MethodName := ⟨RX10, "clock", "(II)I"⟩
abbrev cX10_checkStep : ByteArray := prog_12_method_38_code
def yX10_checkStep : MethodName := ⟨RX10, "checkStep", "(II)I"⟩
abbrev cX10_makeChannel : ByteArray := prog_12_method_39_code
def yX10_makeChannel : MethodName := ⟨RX10, "makeChannel", "(I)V"⟩
abbrev cX10_besideWord : ByteArray := prog_12_method_40_code
def yX10_besideWord : MethodName := ⟨RX10, "besideWord", "(I)I"⟩
abbrev cX10_press : ByteArray := prog_12_method_41_code
def yX10_press : MethodName := ⟨RX10, "press", "()I"⟩
abbrev cX10_frames : ByteArray := prog_12_method_42_code
def yX10_frames : MethodName := ⟨RX10, "frames", "()I"⟩
abbrev cX10_length : ByteArray := prog_12_method_43_code
def yX10_length : MethodName := ⟨RX10, "length", "()I"⟩
abbrev cX10_bit : ByteArray := prog_12_method_44_code
def yX10_bit : MethodName := ⟨RX10, "bit", "(I)I"⟩
abbrev cX10_taken : ByteArray := prog_12_method_45_code
def yX10_taken : MethodName := ⟨RX10, "taken", "(II)I"⟩
abbrev cX10_bits : ByteArray := prog_12_method_46_code
def yX10_bits : MethodName := ⟨RX10, "bits", "(I)I"⟩
abbrev cX10_word : ByteArray := prog_12_method_47_code
def yX10_word : MethodName := ⟨RX10, "word", "(II)I"⟩
abbrev cX10_joint : ByteArray := prog_12_method_48_code
def yX10_joint : MethodName := ⟨RX10, "joint", "(II)I"⟩
abbrev cX10_balance : ByteArray := prog_12_method_49_code
def yX10_balance : MethodName := ⟨RX10, "balance", "(I)I"⟩
abbrev cX10_run : ByteArray := prog_12_method_50_code
def yX10_run : MethodName := ⟨RX10, "run", "(Z)I"⟩
abbrev cX10_isSign : ByteArray := prog_12_method_51_code
def yX10_isSign : MethodName := ⟨RX10, "isSign", "(I)Z"⟩
abbrev cX10_signs : ByteArray := prog_12_method_52_code
def yX10_signs : MethodName := ⟨RX10, "signs", "()I"⟩
abbrev cX10_signAt : ByteArray := prog_12_method_53_code
def yX10_signAt : MethodName := ⟨RX10, "signAt", "(I)I"⟩
abbrev cX10_flip : ByteArray := prog_12_method_54_code
def yX10_flip : MethodName := ⟨RX10, "flip", "(I)Z"⟩
abbrev cX10_reached : ByteArray := prog_12_method_55_code
def yX10_reached : MethodName := ⟨RX10, "reached", "(II)I"⟩
abbrev cX10_scratch : ByteArray := prog_12_method_56_code
def yX10_scratch : MethodName := ⟨RX10, "scratch", "(II)I"⟩
abbrev cX10_noise : ByteArray := prog_12_method_57_code
def yX10_noise : MethodName := ⟨RX10, "noise", "(III)I"⟩
abbrev cX10_slip : ByteArray := prog_12_method_58_code
def yX10_slip : MethodName := ⟨RX10, "slip", "(II)I"⟩
abbrev cX10_nextFrame : ByteArray := prog_12_method_59_code
def yX10_nextFrame : MethodName := ⟨RX10, "nextFrame", "(II)I"⟩
abbrev cX10_findFrames : ByteArray := prog_12_method_60_code
def yX10_findFrames : MethodName := ⟨RX10, "findFrames", "(I)V"⟩
abbrev cX10_readInner : ByteArray := prog_12_method_61_code
def yX10_readInner : MethodName := ⟨RX10, "readInner", "(II)V"⟩
abbrev cX10_playInner : ByteArray := prog_12_method_62_code
def yX10_playInner : MethodName := ⟨RX10, "playInner", "(II)V"⟩
abbrev cX10_playOuter : ByteArray := prog_12_method_63_code
def yX10_playOuter : MethodName := ⟨RX10, "playOuter", "(II)V"⟩
abbrev cX10_takeFrame : ByteArray := prog_12_method_64_code
def yX10_takeFrame : MethodName := ⟨RX10, "takeFrame", "(I)V"⟩
abbrev cX10_play : ByteArray := prog_12_method_65_code
def yX10_play : MethodName := ⟨RX10, "play", "(III)I"⟩
abbrev cX10_isThere : ByteArray := prog_12_method_66_code
def yX10_isThere : MethodName := ⟨RX10, "isThere", "(I)Z"⟩
abbrev cX10_played : ByteArray := prog_12_method_67_code
def yX10_played : MethodName := ⟨RX10, "played", "(I)I"⟩
abbrev cX10_isSure : ByteArray := prog_12_method_68_code
def yX10_isSure : MethodName := ⟨RX10, "isSure", "(I)Z"⟩
abbrev cX10_sampleAt : ByteArray := prog_12_method_69_code
def yX10_sampleAt : MethodName := ⟨RX10, "sampleAt", "(IZ)I"⟩
abbrev cX10_isSampleSure : ByteArray := prog_12_method_70_code
def yX10_isSampleSure : MethodName := ⟨RX10, "isSampleSure", "(IZ)Z"⟩
abbrev cX10_sample : ByteArray := prog_12_method_71_code
def yX10_sample : MethodName := ⟨RX10, "sample", "(IZ)I"⟩
abbrev cX10_heard : ByteArray := prog_12_method_72_code
def yX10_heard : MethodName := ⟨RX10, "heard", "(IZ)I"⟩
abbrev cX10_inner : ByteArray := prog_12_method_73_code
def yX10_inner : MethodName := ⟨RX10, "inner", "(I)I"⟩
abbrev cX10_outer : ByteArray := prog_12_method_74_code
def yX10_outer : MethodName := ⟨RX10, "outer", "(I)I"⟩
abbrev cX10_hidden : ByteArray := prog_12_method_75_code
def yX10_hidden : MethodName := ⟨RX10, "hidden", "()I"⟩
abbrev cX10_beginsSection : ByteArray := prog_12_method_76_code
def yX10_beginsSection : MethodName := ⟨RX10, "beginsSection", "(I)Z"⟩
abbrev cX10_sections : ByteArray := prog_12_method_77_code
def yX10_sections : MethodName := ⟨RX10, "sections", "()I"⟩
abbrev cX10_told : ByteArray := prog_12_method_78_code
def yX10_told : MethodName := ⟨RX10, "told", "(I)I"⟩
abbrev cX10_sectionAt : ByteArray := prog_12_method_79_code
def yX10_sectionAt : MethodName := ⟨RX10, "sectionAt", "(I)I"⟩
abbrev cX10_channelBits : ByteArray := prog_12_method_80_code
def yX10_channelBits : MethodName := ⟨RX10, "channelBits", "(II)I"⟩
abbrev cX10_twoFigures : ByteArray := prog_12_method_81_code
def yX10_twoFigures : MethodName := ⟨RX10, "twoFigures", "(I)I"⟩
abbrev cX10_clockOf : ByteArray := prog_12_method_82_code
def yX10_clockOf : MethodName := ⟨RX10, "clockOf", "(I)I"⟩
abbrev cX10_isClock : ByteArray := prog_12_method_83_code
def yX10_isClock : MethodName := ⟨RX10, "isClock", "(I)Z"⟩
abbrev cX10_isSound : ByteArray := prog_12_method_84_code
def yX10_isSound : MethodName := ⟨RX10, "isSound", "(I)Z"⟩
abbrev cX10_q : ByteArray := prog_12_method_85_code
def yX10_q : MethodName := ⟨RX10, "q", "(II)I"⟩
abbrev cX10_burst : ByteArray := prog_12_method_86_code
def yX10_burst : MethodName := ⟨RX10, "burst", "(I)I"⟩
abbrev cX10_spell : ByteArray := prog_12_method_87_code
def yX10_spell : MethodName := ⟨RX10, "spell", "(I)I"⟩
abbrev cX10_read : ByteArray := prog_12_method_88_code
def yX10_read : MethodName := ⟨RX10, "read", "(I)I"⟩
abbrev cX10_put : ByteArray := prog_12_method_89_code
def yX10_put : MethodName := ⟨RX10, "put", "(II)I"⟩
abbrev cX10_mark : ByteArray := prog_12_method_90_code
def yX10_mark : MethodName := ⟨RX10, "mark", "(IZ)Z"⟩
abbrev cX10_at : ByteArray := prog_12_method_91_code
def yX10_at : MethodName := ⟨RX10, "at", "(I)I"⟩
abbrev cX10_toBench : ByteArray := prog_12_method_92_code
def yX10_toBench : MethodName := ⟨RX10, "toBench", "(I)V"⟩
abbrev cX10_seal : ByteArray := prog_12_method_93_code
def yX10_seal : MethodName := ⟨RX10, "seal", "(Z)V"⟩
abbrev cX10_syndrome : ByteArray := prog_12_method_94_code
def yX10_syndrome : MethodName := ⟨RX10, "syndrome", "(ZI)I"⟩
abbrev cX10_mend : ByteArray := prog_12_method_95_code
def yX10_mend : MethodName := ⟨RX10, "mend", "(ZI)I"⟩
def RJ6 : String := "java/lang/Integer"
def TJ6 : u_T := fun k => match k with
  | _ => ("", "", "", false)
def tyJ6 : Nat → FieldType := fun k => match k with
  | _ => .int
abbrev wsJ60 : List Cond := u_ws RJ6 TJ6 0
theorem nmJ6 : ∀ a, a < 0 → ∀ b, b < 0 → a ≠ b → (TJ6 a).2.1 ≠ (TJ6 b).2.1 := by decide +kernel
theorem tyJ6_ok : ∀ k, k < 0 → parseFieldDescriptor (TJ6 k).2.2.1 = some (tyJ6 k) := by decide +kernel
abbrev cJ6_bitCount_0f7a4 : ByteArray := prog_13_method_49_code
def yJ6_bitCount_0f7a4 : MethodName := ⟨RJ6, "bitCount", "(I)I"⟩
def RJ9 : String := "java/lang/Math"
def TJ9 : u_T := fun k => match k with
  | _ => ("", "", "", false)
def tyJ9 : Nat → FieldType := fun k => match k with
  | _ => .int
abbrev wsJ90 : List Cond := u_ws RJ9 TJ9 0
theorem nmJ9 : ∀ a, a < 0 → ∀ b, b < 0 → a ≠ b → (TJ9 a).2.1 ≠ (TJ9 b).2.1 := by decide +kernel
theorem tyJ9_ok : ∀ k, k < 0 → parseFieldDescriptor (TJ9 k).2.2.1 = some (tyJ9 k) := by decide +kernel
abbrev cJ9_abs_0f7a4 : ByteArray := prog_14_method_59_code
def yJ9_abs_0f7a4 : MethodName := ⟨RJ9, "abs", "(I)I"⟩
abbrev cJ9_max_7cf53 : ByteArray := prog_14_method_65_code
def yJ9_max_7cf53 : MethodName := ⟨RJ9, "max", "(II)I"⟩
abbrev cJ9_min_7cf53 : ByteArray := prog_14_method_69_code
def yJ9_min_7cf53 : MethodName := ⟨RJ9, "min", "(II)I"⟩
def RJ7 : String := "java/util/Arrays"
def TJ7 : u_T := fun k => match k with
  | _ => ("", "", "", false)
def tyJ7 : Nat → FieldType := fun k => match k with
  | _ => .int
abbrev wsJ70 : List Cond := u_ws RJ7 TJ7 0
theorem nmJ7 : ∀ a, a < 0 → ∀ b, b < 0 → a ≠ b → (TJ7 a).2.1 ≠ (TJ7 b).2.1 := by decide +kernel
theorem tyJ7_ok : ∀ k, k < 0 → parseFieldDescriptor (TJ7 k).2.2.1 = some (tyJ7 k) := by decide +kernel
abbrev cJ7_fill_53178 : ByteArray := prog_15_method_103_code
def yJ7_fill_53178 : MethodName := ⟨RJ7, "fill", "([II)V"⟩
abbrev cJ7_fill_031fb : ByteArray := prog_15_method_109_code
def yJ7_fill_031fb : MethodName := ⟨RJ7, "fill", "([BB)V"⟩
def RL : String := "CompactDiscLaw"
abbrev cL_law : ByteArray := code
def yL_law : MethodName := ⟨RL, "law", "([I)Z"⟩
abbrev vwCl : List vw_C := [(RX0, TX0, 8), (RX1, TX1, 6), (RX2, TX2, 2), (RX3, TX3, 3), (RX4, TX4, 1), (RX5, TX5, 15), (RX6, TX6, 11), (RX7, TX7, 2), (RX8, TX8, 2), (RX9, TX9, 11), (RX10, TX10, 50)]
