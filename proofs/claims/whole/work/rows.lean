section
-- ===== PART A: goes FIRST, ahead of the names: the tables' words, and 'selects' of the private methods out of them =====
/-- a private method of a class that the tables say can be made, by its rows of tables_1 -/
def lw_okq (q : MethodName × Nat) : Prop := (q.1.cls ≠ "java/lang/invoke/MethodHandle" ∧ q.1.cls ≠ "java/lang/invoke/VarHandle") ∧ Cond.instantiable q.1.cls q.2 ∈ tables_1 ∧ Cond.privateMethod q.1 ∈ tables_1 ∧ Cond.instanceMethod q.1 ∈ tables_1
theorem lw_p0 : lw_okq (⟨"RankedEchoes", "layWhatIsTold", "()V"⟩, 6) := ⟨⟨by decide +kernel, by decide +kernel⟩, List.mem_of_getElem? (i := 17) (by decide +kernel), List.mem_of_getElem? (i := 209) (by decide +kernel), List.mem_of_getElem? (i := 210) (by decide +kernel)⟩
theorem lw_p1 : lw_okq (⟨"RankedEchoes$Text", "endOfItem", "(I)I"⟩, 3) := ⟨⟨by decide +kernel, by decide +kernel⟩, List.mem_of_getElem? (i := 25) (by decide +kernel), List.mem_of_getElem? (i := 265) (by decide +kernel), List.mem_of_getElem? (i := 266) (by decide +kernel)⟩
theorem lw_p2 : lw_okq (⟨"RankedEchoes$Text", "readItem", "(IILRankedEchoes$Told;)Z"⟩, 3) := ⟨⟨by decide +kernel, by decide +kernel⟩, List.mem_of_getElem? (i := 25) (by decide +kernel), List.mem_of_getElem? (i := 269) (by decide +kernel), List.mem_of_getElem? (i := 270) (by decide +kernel)⟩
theorem lw_p3 : lw_okq (⟨"RankedEchoes$Text", "stands", "(Ljava/lang/String;II)Z"⟩, 3) := ⟨⟨by decide +kernel, by decide +kernel⟩, List.mem_of_getElem? (i := 25) (by decide +kernel), List.mem_of_getElem? (i := 274) (by decide +kernel), List.mem_of_getElem? (i := 275) (by decide +kernel)⟩
theorem lw_p4 : lw_okq (⟨"RankedEchoes$Text", "readMode", "(IILRankedEchoes$Told;)Z"⟩, 3) := ⟨⟨by decide +kernel, by decide +kernel⟩, List.mem_of_getElem? (i := 25) (by decide +kernel), List.mem_of_getElem? (i := 326) (by decide +kernel), List.mem_of_getElem? (i := 327) (by decide +kernel)⟩
theorem lw_p5 : lw_okq (⟨"RankedEchoes$Text", "readNumbers", "(II)I"⟩, 3) := ⟨⟨by decide +kernel, by decide +kernel⟩, List.mem_of_getElem? (i := 25) (by decide +kernel), List.mem_of_getElem? (i := 334) (by decide +kernel), List.mem_of_getElem? (i := 335) (by decide +kernel)⟩
theorem lw_p6 : lw_okq (⟨"RankedEchoes$Past", "forgetOldest", "()V"⟩, 4) := ⟨⟨by decide +kernel, by decide +kernel⟩, List.mem_of_getElem? (i := 171) (by decide +kernel), List.mem_of_getElem? (i := 377) (by decide +kernel), List.mem_of_getElem? (i := 378) (by decide +kernel)⟩
theorem lw_p7 : lw_okq (⟨"RankedEchoes$Row", "slideBack", "(II)V"⟩, 8) := ⟨⟨by decide +kernel, by decide +kernel⟩, List.mem_of_getElem? (i := 74) (by decide +kernel), List.mem_of_getElem? (i := 437) (by decide +kernel), List.mem_of_getElem? (i := 438) (by decide +kernel)⟩
theorem lw_p8 : lw_okq (⟨"RankedEchoes$Row", "gatherFrom", "(III)V"⟩, 8) := ⟨⟨by decide +kernel, by decide +kernel⟩, List.mem_of_getElem? (i := 74) (by decide +kernel), List.mem_of_getElem? (i := 449) (by decide +kernel), List.mem_of_getElem? (i := 450) (by decide +kernel)⟩
theorem lw_p9 : lw_okq (⟨"RankedEchoes$Row", "sortIn", "(I)V"⟩, 8) := ⟨⟨by decide +kernel, by decide +kernel⟩, List.mem_of_getElem? (i := 74) (by decide +kernel), List.mem_of_getElem? (i := 456) (by decide +kernel), List.mem_of_getElem? (i := 457) (by decide +kernel)⟩
theorem lw_p10 : lw_okq (⟨"RankedEchoes$Row", "rankOn", "(III)I"⟩, 8) := ⟨⟨by decide +kernel, by decide +kernel⟩, List.mem_of_getElem? (i := 74) (by decide +kernel), List.mem_of_getElem? (i := 464) (by decide +kernel), List.mem_of_getElem? (i := 465) (by decide +kernel)⟩
theorem lw_p11 : lw_okq (⟨"RankedEchoes$Alarms", "addToBunch", "(ILRankedEchoes$Row;)V"⟩, 7) := ⟨⟨by decide +kernel, by decide +kernel⟩, List.mem_of_getElem? (i := 116) (by decide +kernel), List.mem_of_getElem? (i := 487) (by decide +kernel), List.mem_of_getElem? (i := 488) (by decide +kernel)⟩
theorem lw_p12 : lw_okq (⟨"RankedEchoes$Dice", "waysOfFloorAtMost", "(IIII)J"⟩, 4) := ⟨⟨by decide +kernel, by decide +kernel⟩, List.mem_of_getElem? (i := 150) (by decide +kernel), List.mem_of_getElem? (i := 529) (by decide +kernel), List.mem_of_getElem? (i := 530) (by decide +kernel)⟩
theorem lw_p13 : lw_okq (⟨"RankedEchoes$Dice", "waysOfRankAtMost", "(III)J"⟩, 4) := ⟨⟨by decide +kernel, by decide +kernel⟩, List.mem_of_getElem? (i := 150) (by decide +kernel), List.mem_of_getElem? (i := 533) (by decide +kernel), List.mem_of_getElem? (i := 534) (by decide +kernel)⟩
theorem lw_p14 : lw_okq (⟨"RankedEchoes$Dice", "raised", "(I)J"⟩, 4) := ⟨⟨by decide +kernel, by decide +kernel⟩, List.mem_of_getElem? (i := 150) (by decide +kernel), List.mem_of_getElem? (i := 541) (by decide +kernel), List.mem_of_getElem? (i := 542) (by decide +kernel)⟩
theorem lw_p15 : lw_okq (⟨"RankedEchoes", "letterBehindCells", "(I)I"⟩, 6) := ⟨⟨by decide +kernel, by decide +kernel⟩, List.mem_of_getElem? (i := 17) (by decide +kernel), List.mem_of_getElem? (i := 572) (by decide +kernel), List.mem_of_getElem? (i := 573) (by decide +kernel)⟩
def lw_privs_1 : List (MethodName × Nat) := [(⟨"RankedEchoes", "layWhatIsTold", "()V"⟩, 6), (⟨"RankedEchoes$Text", "endOfItem", "(I)I"⟩, 3), (⟨"RankedEchoes$Text", "readItem", "(IILRankedEchoes$Told;)Z"⟩, 3), (⟨"RankedEchoes$Text", "stands", "(Ljava/lang/String;II)Z"⟩, 3), (⟨"RankedEchoes$Text", "readMode", "(IILRankedEchoes$Told;)Z"⟩, 3), (⟨"RankedEchoes$Text", "readNumbers", "(II)I"⟩, 3), (⟨"RankedEchoes$Past", "forgetOldest", "()V"⟩, 4), (⟨"RankedEchoes$Row", "slideBack", "(II)V"⟩, 8), (⟨"RankedEchoes$Row", "gatherFrom", "(III)V"⟩, 8), (⟨"RankedEchoes$Row", "sortIn", "(I)V"⟩, 8), (⟨"RankedEchoes$Row", "rankOn", "(III)I"⟩, 8), (⟨"RankedEchoes$Alarms", "addToBunch", "(ILRankedEchoes$Row;)V"⟩, 7), (⟨"RankedEchoes$Dice", "waysOfFloorAtMost", "(IIII)J"⟩, 4), (⟨"RankedEchoes$Dice", "waysOfRankAtMost", "(III)J"⟩, 4), (⟨"RankedEchoes$Dice", "raised", "(I)J"⟩, 4), (⟨"RankedEchoes", "letterBehindCells", "(I)I"⟩, 6)]
theorem lw_r1 : ∀ q ∈ lw_privs_1, lw_okq q := List.forall_mem_cons.mpr ⟨lw_p0, List.forall_mem_cons.mpr ⟨lw_p1, List.forall_mem_cons.mpr ⟨lw_p2, List.forall_mem_cons.mpr ⟨lw_p3, List.forall_mem_cons.mpr ⟨lw_p4, List.forall_mem_cons.mpr ⟨lw_p5, List.forall_mem_cons.mpr ⟨lw_p6, List.forall_mem_cons.mpr ⟨lw_p7, List.forall_mem_cons.mpr ⟨lw_p8, List.forall_mem_cons.mpr ⟨lw_p9, List.forall_mem_cons.mpr ⟨lw_p10, List.forall_mem_cons.mpr ⟨lw_p11, List.forall_mem_cons.mpr ⟨lw_p12, List.forall_mem_cons.mpr ⟨lw_p13, List.forall_mem_cons.mpr ⟨lw_p14, List.forall_mem_cons.mpr ⟨lw_p15, fun _ h => absurd h List.not_mem_nil⟩⟩⟩⟩⟩⟩⟩⟩⟩⟩⟩⟩⟩⟩⟩⟩
theorem lw_p16 : lw_okq (⟨"RankedEchoesModel", "clears", "()V"⟩, 15) := ⟨⟨by decide +kernel, by decide +kernel⟩, List.mem_of_getElem? (i := 586) (by decide +kernel), List.mem_of_getElem? (i := 592) (by decide +kernel), List.mem_of_getElem? (i := 593) (by decide +kernel)⟩
theorem lw_p17 : lw_okq (⟨"RankedEchoesModel", "adds", "(IIII)V"⟩, 15) := ⟨⟨by decide +kernel, by decide +kernel⟩, List.mem_of_getElem? (i := 586) (by decide +kernel), List.mem_of_getElem? (i := 596) (by decide +kernel), List.mem_of_getElem? (i := 597) (by decide +kernel)⟩
theorem lw_p18 : lw_okq (⟨"RankedEchoesModel", "takes", "()V"⟩, 15) := ⟨⟨by decide +kernel, by decide +kernel⟩, List.mem_of_getElem? (i := 586) (by decide +kernel), List.mem_of_getElem? (i := 600) (by decide +kernel), List.mem_of_getElem? (i := 601) (by decide +kernel)⟩
theorem lw_p19 : lw_okq (⟨"RankedEchoesModel", "reads", "()I"⟩, 15) := ⟨⟨by decide +kernel, by decide +kernel⟩, List.mem_of_getElem? (i := 586) (by decide +kernel), List.mem_of_getElem? (i := 662) (by decide +kernel), List.mem_of_getElem? (i := 663) (by decide +kernel)⟩
theorem lw_p20 : lw_okq (⟨"RankedEchoesModel", "readsItem", "(I)Z"⟩, 15) := ⟨⟨by decide +kernel, by decide +kernel⟩, List.mem_of_getElem? (i := 586) (by decide +kernel), List.mem_of_getElem? (i := 666) (by decide +kernel), List.mem_of_getElem? (i := 667) (by decide +kernel)⟩
theorem lw_p21 : lw_okq (⟨"RankedEchoesModel", "letterAt", "(I)I"⟩, 15) := ⟨⟨by decide +kernel, by decide +kernel⟩, List.mem_of_getElem? (i := 586) (by decide +kernel), List.mem_of_getElem? (i := 670) (by decide +kernel), List.mem_of_getElem? (i := 671) (by decide +kernel)⟩
theorem lw_p22 : lw_okq (⟨"RankedEchoesModel", "isWord", "(IIIII)Z"⟩, 15) := ⟨⟨by decide +kernel, by decide +kernel⟩, List.mem_of_getElem? (i := 586) (by decide +kernel), List.mem_of_getElem? (i := 674) (by decide +kernel), List.mem_of_getElem? (i := 675) (by decide +kernel)⟩
theorem lw_p23 : lw_okq (⟨"RankedEchoesModel", "readsCells", "(I)Z"⟩, 15) := ⟨⟨by decide +kernel, by decide +kernel⟩, List.mem_of_getElem? (i := 586) (by decide +kernel), List.mem_of_getElem? (i := 678) (by decide +kernel), List.mem_of_getElem? (i := 679) (by decide +kernel)⟩
theorem lw_p24 : lw_okq (⟨"RankedEchoesModel", "number", "(I)I"⟩, 15) := ⟨⟨by decide +kernel, by decide +kernel⟩, List.mem_of_getElem? (i := 586) (by decide +kernel), List.mem_of_getElem? (i := 682) (by decide +kernel), List.mem_of_getElem? (i := 683) (by decide +kernel)⟩
theorem lw_p25 : lw_okq (⟨"RankedEchoesModel", "readsLook", "(I)Z"⟩, 15) := ⟨⟨by decide +kernel, by decide +kernel⟩, List.mem_of_getElem? (i := 586) (by decide +kernel), List.mem_of_getElem? (i := 686) (by decide +kernel), List.mem_of_getElem? (i := 687) (by decide +kernel)⟩
theorem lw_p26 : lw_okq (⟨"RankedEchoesModel", "readsMode", "(I)Z"⟩, 15) := ⟨⟨by decide +kernel, by decide +kernel⟩, List.mem_of_getElem? (i := 586) (by decide +kernel), List.mem_of_getElem? (i := 699) (by decide +kernel), List.mem_of_getElem? (i := 700) (by decide +kernel)⟩
theorem lw_p27 : lw_okq (⟨"RankedEchoesModel", "readsNoise", "(I)Z"⟩, 15) := ⟨⟨by decide +kernel, by decide +kernel⟩, List.mem_of_getElem? (i := 586) (by decide +kernel), List.mem_of_getElem? (i := 703) (by decide +kernel), List.mem_of_getElem? (i := 704) (by decide +kernel)⟩
theorem lw_p28 : lw_okq (⟨"RankedEchoesModel", "isCell", "(I)Z"⟩, 15) := ⟨⟨by decide +kernel, by decide +kernel⟩, List.mem_of_getElem? (i := 586) (by decide +kernel), List.mem_of_getElem? (i := 715) (by decide +kernel), List.mem_of_getElem? (i := 716) (by decide +kernel)⟩
theorem lw_p29 : lw_okq (⟨"RankedEchoesModel", "becomes", "(II)I"⟩, 15) := ⟨⟨by decide +kernel, by decide +kernel⟩, List.mem_of_getElem? (i := 586) (by decide +kernel), List.mem_of_getElem? (i := 719) (by decide +kernel), List.mem_of_getElem? (i := 720) (by decide +kernel)⟩
theorem lw_p30 : lw_okq (⟨"RankedEchoesModel", "keeps", "()V"⟩, 15) := ⟨⟨by decide +kernel, by decide +kernel⟩, List.mem_of_getElem? (i := 586) (by decide +kernel), List.mem_of_getElem? (i := 723) (by decide +kernel), List.mem_of_getElem? (i := 724) (by decide +kernel)⟩
theorem lw_p31 : lw_okq (⟨"RankedEchoesModel", "leftOut", "()I"⟩, 15) := ⟨⟨by decide +kernel, by decide +kernel⟩, List.mem_of_getElem? (i := 586) (by decide +kernel), List.mem_of_getElem? (i := 731) (by decide +kernel), List.mem_of_getElem? (i := 732) (by decide +kernel)⟩
def lw_privs_2 : List (MethodName × Nat) := [(⟨"RankedEchoesModel", "clears", "()V"⟩, 15), (⟨"RankedEchoesModel", "adds", "(IIII)V"⟩, 15), (⟨"RankedEchoesModel", "takes", "()V"⟩, 15), (⟨"RankedEchoesModel", "reads", "()I"⟩, 15), (⟨"RankedEchoesModel", "readsItem", "(I)Z"⟩, 15), (⟨"RankedEchoesModel", "letterAt", "(I)I"⟩, 15), (⟨"RankedEchoesModel", "isWord", "(IIIII)Z"⟩, 15), (⟨"RankedEchoesModel", "readsCells", "(I)Z"⟩, 15), (⟨"RankedEchoesModel", "number", "(I)I"⟩, 15), (⟨"RankedEchoesModel", "readsLook", "(I)Z"⟩, 15), (⟨"RankedEchoesModel", "readsMode", "(I)Z"⟩, 15), (⟨"RankedEchoesModel", "readsNoise", "(I)Z"⟩, 15), (⟨"RankedEchoesModel", "isCell", "(I)Z"⟩, 15), (⟨"RankedEchoesModel", "becomes", "(II)I"⟩, 15), (⟨"RankedEchoesModel", "keeps", "()V"⟩, 15), (⟨"RankedEchoesModel", "leftOut", "()I"⟩, 15)]
theorem lw_r2 : ∀ q ∈ lw_privs_2, lw_okq q := List.forall_mem_cons.mpr ⟨lw_p16, List.forall_mem_cons.mpr ⟨lw_p17, List.forall_mem_cons.mpr ⟨lw_p18, List.forall_mem_cons.mpr ⟨lw_p19, List.forall_mem_cons.mpr ⟨lw_p20, List.forall_mem_cons.mpr ⟨lw_p21, List.forall_mem_cons.mpr ⟨lw_p22, List.forall_mem_cons.mpr ⟨lw_p23, List.forall_mem_cons.mpr ⟨lw_p24, List.forall_mem_cons.mpr ⟨lw_p25, List.forall_mem_cons.mpr ⟨lw_p26, List.forall_mem_cons.mpr ⟨lw_p27, List.forall_mem_cons.mpr ⟨lw_p28, List.forall_mem_cons.mpr ⟨lw_p29, List.forall_mem_cons.mpr ⟨lw_p30, List.forall_mem_cons.mpr ⟨lw_p31, fun _ h => absurd h List.not_mem_nil⟩⟩⟩⟩⟩⟩⟩⟩⟩⟩⟩⟩⟩⟩⟩⟩
theorem lw_p32 : lw_okq (⟨"RankedEchoesModel", "rank", "(II)I"⟩, 15) := ⟨⟨by decide +kernel, by decide +kernel⟩, List.mem_of_getElem? (i := 586) (by decide +kernel), List.mem_of_getElem? (i := 755) (by decide +kernel), List.mem_of_getElem? (i := 756) (by decide +kernel)⟩
theorem lw_p33 : lw_okq (⟨"RankedEchoesModel", "meets", "(II)V"⟩, 15) := ⟨⟨by decide +kernel, by decide +kernel⟩, List.mem_of_getElem? (i := 586) (by decide +kernel), List.mem_of_getElem? (i := 759) (by decide +kernel), List.mem_of_getElem? (i := 760) (by decide +kernel)⟩
theorem lw_p34 : lw_okq (⟨"RankedEchoesModel", "floorOf", "(I)I"⟩, 15) := ⟨⟨by decide +kernel, by decide +kernel⟩, List.mem_of_getElem? (i := 586) (by decide +kernel), List.mem_of_getElem? (i := 763) (by decide +kernel), List.mem_of_getElem? (i := 764) (by decide +kernel)⟩
theorem lw_p35 : lw_okq (⟨"RankedEchoesModel", "byRank", "(II)I"⟩, 15) := ⟨⟨by decide +kernel, by decide +kernel⟩, List.mem_of_getElem? (i := 586) (by decide +kernel), List.mem_of_getElem? (i := 767) (by decide +kernel), List.mem_of_getElem? (i := 768) (by decide +kernel)⟩
theorem lw_p36 : lw_okq (⟨"RankedEchoesModel", "isAlarm", "(I)Z"⟩, 15) := ⟨⟨by decide +kernel, by decide +kernel⟩, List.mem_of_getElem? (i := 586) (by decide +kernel), List.mem_of_getElem? (i := 771) (by decide +kernel), List.mem_of_getElem? (i := 772) (by decide +kernel)⟩
theorem lw_p37 : lw_okq (⟨"RankedEchoesModel", "bunchesTo", "(I)I"⟩, 15) := ⟨⟨by decide +kernel, by decide +kernel⟩, List.mem_of_getElem? (i := 586) (by decide +kernel), List.mem_of_getElem? (i := 775) (by decide +kernel), List.mem_of_getElem? (i := 776) (by decide +kernel)⟩
theorem lw_p38 : lw_okq (⟨"RankedEchoesModel", "hides1", "(II)Z"⟩, 15) := ⟨⟨by decide +kernel, by decide +kernel⟩, List.mem_of_getElem? (i := 586) (by decide +kernel), List.mem_of_getElem? (i := 787) (by decide +kernel), List.mem_of_getElem? (i := 788) (by decide +kernel)⟩
theorem lw_p39 : lw_okq (⟨"RankedEchoesModel", "bunches", "()I"⟩, 15) := ⟨⟨by decide +kernel, by decide +kernel⟩, List.mem_of_getElem? (i := 586) (by decide +kernel), List.mem_of_getElem? (i := 795) (by decide +kernel), List.mem_of_getElem? (i := 796) (by decide +kernel)⟩
theorem lw_p40 : lw_okq (⟨"RankedEchoesModel", "firstOf", "(I)I"⟩, 15) := ⟨⟨by decide +kernel, by decide +kernel⟩, List.mem_of_getElem? (i := 586) (by decide +kernel), List.mem_of_getElem? (i := 799) (by decide +kernel), List.mem_of_getElem? (i := 800) (by decide +kernel)⟩
theorem lw_p41 : lw_okq (⟨"RankedEchoesModel", "lastFrom", "(I)I"⟩, 15) := ⟨⟨by decide +kernel, by decide +kernel⟩, List.mem_of_getElem? (i := 586) (by decide +kernel), List.mem_of_getElem? (i := 803) (by decide +kernel), List.mem_of_getElem? (i := 804) (by decide +kernel)⟩
theorem lw_p42 : lw_okq (⟨"RankedEchoesModel", "peak", "(I)I"⟩, 15) := ⟨⟨by decide +kernel, by decide +kernel⟩, List.mem_of_getElem? (i := 586) (by decide +kernel), List.mem_of_getElem? (i := 807) (by decide +kernel), List.mem_of_getElem? (i := 808) (by decide +kernel)⟩
theorem lw_p43 : lw_okq (⟨"RankedEchoesModel", "alarms", "()I"⟩, 15) := ⟨⟨by decide +kernel, by decide +kernel⟩, List.mem_of_getElem? (i := 586) (by decide +kernel), List.mem_of_getElem? (i := 815) (by decide +kernel), List.mem_of_getElem? (i := 816) (by decide +kernel)⟩
theorem lw_p44 : lw_okq (⟨"RankedEchoesModel", "falses", "(I)J"⟩, 15) := ⟨⟨by decide +kernel, by decide +kernel⟩, List.mem_of_getElem? (i := 586) (by decide +kernel), List.mem_of_getElem? (i := 828) (by decide +kernel), List.mem_of_getElem? (i := 829) (by decide +kernel)⟩
theorem lw_p45 : lw_okq (⟨"RankedEchoesModel", "floors", "(J)J"⟩, 15) := ⟨⟨by decide +kernel, by decide +kernel⟩, List.mem_of_getElem? (i := 586) (by decide +kernel), List.mem_of_getElem? (i := 832) (by decide +kernel), List.mem_of_getElem? (i := 833) (by decide +kernel)⟩
theorem lw_p46 : lw_okq (⟨"RankedEchoesModel", "within", "(IJ)J"⟩, 15) := ⟨⟨by decide +kernel, by decide +kernel⟩, List.mem_of_getElem? (i := 586) (by decide +kernel), List.mem_of_getElem? (i := 836) (by decide +kernel), List.mem_of_getElem? (i := 837) (by decide +kernel)⟩
theorem lw_p47 : lw_okq (⟨"RankedEchoesModel", "weight", "()I"⟩, 15) := ⟨⟨by decide +kernel, by decide +kernel⟩, List.mem_of_getElem? (i := 586) (by decide +kernel), List.mem_of_getElem? (i := 840) (by decide +kernel), List.mem_of_getElem? (i := 841) (by decide +kernel)⟩
def lw_privs_3 : List (MethodName × Nat) := [(⟨"RankedEchoesModel", "rank", "(II)I"⟩, 15), (⟨"RankedEchoesModel", "meets", "(II)V"⟩, 15), (⟨"RankedEchoesModel", "floorOf", "(I)I"⟩, 15), (⟨"RankedEchoesModel", "byRank", "(II)I"⟩, 15), (⟨"RankedEchoesModel", "isAlarm", "(I)Z"⟩, 15), (⟨"RankedEchoesModel", "bunchesTo", "(I)I"⟩, 15), (⟨"RankedEchoesModel", "hides1", "(II)Z"⟩, 15), (⟨"RankedEchoesModel", "bunches", "()I"⟩, 15), (⟨"RankedEchoesModel", "firstOf", "(I)I"⟩, 15), (⟨"RankedEchoesModel", "lastFrom", "(I)I"⟩, 15), (⟨"RankedEchoesModel", "peak", "(I)I"⟩, 15), (⟨"RankedEchoesModel", "alarms", "()I"⟩, 15), (⟨"RankedEchoesModel", "falses", "(I)J"⟩, 15), (⟨"RankedEchoesModel", "floors", "(J)J"⟩, 15), (⟨"RankedEchoesModel", "within", "(IJ)J"⟩, 15), (⟨"RankedEchoesModel", "weight", "()I"⟩, 15)]
theorem lw_r3 : ∀ q ∈ lw_privs_3, lw_okq q := List.forall_mem_cons.mpr ⟨lw_p32, List.forall_mem_cons.mpr ⟨lw_p33, List.forall_mem_cons.mpr ⟨lw_p34, List.forall_mem_cons.mpr ⟨lw_p35, List.forall_mem_cons.mpr ⟨lw_p36, List.forall_mem_cons.mpr ⟨lw_p37, List.forall_mem_cons.mpr ⟨lw_p38, List.forall_mem_cons.mpr ⟨lw_p39, List.forall_mem_cons.mpr ⟨lw_p40, List.forall_mem_cons.mpr ⟨lw_p41, List.forall_mem_cons.mpr ⟨lw_p42, List.forall_mem_cons.mpr ⟨lw_p43, List.forall_mem_cons.mpr ⟨lw_p44, List.forall_mem_cons.mpr ⟨lw_p45, List.forall_mem_cons.mpr ⟨lw_p46, List.forall_mem_cons.mpr ⟨lw_p47, fun _ h => absurd h List.not_mem_nil⟩⟩⟩⟩⟩⟩⟩⟩⟩⟩⟩⟩⟩⟩⟩⟩
theorem lw_p48 : lw_okq (⟨"RankedEchoesModel", "allWays", "()J"⟩, 15) := ⟨⟨by decide +kernel, by decide +kernel⟩, List.mem_of_getElem? (i := 586) (by decide +kernel), List.mem_of_getElem? (i := 850) (by decide +kernel), List.mem_of_getElem? (i := 851) (by decide +kernel)⟩
theorem lw_p49 : lw_okq (⟨"RankedEchoesModel", "sign", "(I)I"⟩, 15) := ⟨⟨by decide +kernel, by decide +kernel⟩, List.mem_of_getElem? (i := 586) (by decide +kernel), List.mem_of_getElem? (i := 869) (by decide +kernel), List.mem_of_getElem? (i := 870) (by decide +kernel)⟩
def lw_privs_4 : List (MethodName × Nat) := [(⟨"RankedEchoesModel", "allWays", "()J"⟩, 15), (⟨"RankedEchoesModel", "sign", "(I)I"⟩, 15)]
theorem lw_r4 : ∀ q ∈ lw_privs_4, lw_okq q := List.forall_mem_cons.mpr ⟨lw_p48, List.forall_mem_cons.mpr ⟨lw_p49, fun _ h => absurd h List.not_mem_nil⟩⟩
def lw_privs : List (MethodName × Nat) := lw_privs_1 ++ (lw_privs_2 ++ (lw_privs_3 ++ (lw_privs_4)))
def lw_tbl : List Cond := k2_sels lw_privs ++ tables_1
theorem lw_privs_ok : ∀ q ∈ lw_privs, lw_okq q := by
  show ∀ q ∈ lw_privs_1 ++ (lw_privs_2 ++ (lw_privs_3 ++ (lw_privs_4))), lw_okq q
  exact List.forall_mem_append.mpr ⟨lw_r1, List.forall_mem_append.mpr ⟨lw_r2, List.forall_mem_append.mpr ⟨lw_r3, lw_r4⟩⟩⟩
def RX0 : String := "RankedEchoes$Alarms"
def TX0 : u_T := fun k => match k with
  | 0 => ("RankedEchoes$Alarms", "floors", "[I", true)
  | 1 => ("RankedEchoes$Alarms", "bunchOf", "[I", true)
  | 2 => ("RankedEchoes$Alarms", "firsts", "[I", true)
  | 3 => ("RankedEchoes$Alarms", "lasts", "[I", true)
  | 4 => ("RankedEchoes$Alarms", "peaks", "[I", true)
  | 5 => ("RankedEchoes$Alarms", "howMany", "I", false)
  | _ => ("RankedEchoes$Alarms", "bunches", "I", false)
def tyX0 : Nat → FieldType := fun k => match k with
  | 0 => .array .int
  | 1 => .array .int
  | 2 => .array .int
  | 3 => .array .int
  | 4 => .array .int
  | 5 => .int
  | _ => .int
theorem nmX0 : ∀ a, a < 7 → ∀ b, b < 7 → a ≠ b → (TX0 a).2.1 ≠ (TX0 b).2.1 := by decide +kernel
theorem tyX0_ok : ∀ k, k < 7 → parseFieldDescriptor (TX0 k).2.2.1 = some (tyX0 k) := by decide +kernel
abbrev cX0_init : ByteArray := prog_2_method_1_code
def yX0_init : MethodName := ⟨RX0, "<init>", "()V"⟩
abbrev cX0_settle : ByteArray := prog_2_method_2_code
def yX0_settle : MethodName := ⟨RX0, "settle", "(LRankedEchoes$Row;)V"⟩
abbrev cX0_addToBunch : ByteArray := prog_2_method_3_code
def yX0_addToBunch : MethodName := ⟨RX0, "addToBunch", "(ILRankedEchoes$Row;)V"⟩
abbrev cX0_howManyBy : ByteArray := prog_2_method_4_code
def yX0_howManyBy : MethodName := ⟨RX0, "howManyBy", "(ILRankedEchoes$Row;)I"⟩
abbrev cX0_letterOf : ByteArray := prog_2_method_5_code
def yX0_letterOf : MethodName := ⟨RX0, "letterOf", "(I)I"⟩
def RX1 : String := "RankedEchoes$Dice"
def TX1 : u_T := fun k => match k with
  | 0 => ("RankedEchoes$Dice", "weights", "[I", true)
  | 1 => ("RankedEchoes$Dice", "waysByHowMany", "[J", true)
  | 2 => ("RankedEchoes$Dice", "floorWays", "[J", true)
  | _ => ("RankedEchoes$Dice", "together", "I", false)
def tyX1 : Nat → FieldType := fun k => match k with
  | 0 => .array .int
  | 1 => .array .long
  | 2 => .array .long
  | _ => .int
theorem nmX1 : ∀ a, a < 4 → ∀ b, b < 4 → a ≠ b → (TX1 a).2.1 ≠ (TX1 b).2.1 := by decide +kernel
theorem tyX1_ok : ∀ k, k < 4 → parseFieldDescriptor (TX1 k).2.2.1 = some (tyX1 k) := by decide +kernel
abbrev cX1_init : ByteArray := prog_3_method_1_code
def yX1_init : MethodName := ⟨RX1, "<init>", "()V"⟩
abbrev cX1_take : ByteArray := prog_3_method_2_code
def yX1_take : MethodName := ⟨RX1, "take", "(LRankedEchoes$Told;)V"⟩
abbrev cX1_countFloors : ByteArray := prog_3_method_3_code
def yX1_countFloors : MethodName := ⟨RX1, "countFloors", "([II)V"⟩
abbrev cX1_waysOfFloorAtMost : ByteArray := prog_3_method_4_code
def yX1_waysOfFloorAtMost : MethodName := ⟨RX1, "waysOfFloorAtMost", "(IIII)J"⟩
abbrev cX1_waysOfRankAtMost : ByteArray := prog_3_method_5_code
def yX1_waysOfRankAtMost : MethodName := ⟨RX1, "waysOfRankAtMost", "(III)J"⟩
abbrev cX1_raised : ByteArray := prog_3_method_6_code
def yX1_raised : MethodName := ⟨RX1, "raised", "(I)J"⟩
abbrev cX1_allWays : ByteArray := prog_3_method_7_code
def yX1_allWays : MethodName := ⟨RX1, "allWays", "(I)J"⟩
abbrev cX1_alarmWays : ByteArray := prog_3_method_8_code
def yX1_alarmWays : MethodName := ⟨RX1, "alarmWays", "(II)J"⟩
def RX2 : String := "RankedEchoes$Past"
def TX2 : u_T := fun k => match k with
  | 0 => ("RankedEchoes$Past", "kinds", "[I", true)
  | 1 => ("RankedEchoes$Past", "places", "[I", true)
  | 2 => ("RankedEchoes$Past", "values", "[I", true)
  | _ => ("RankedEchoes$Past", "size", "I", false)
def tyX2 : Nat → FieldType := fun k => match k with
  | 0 => .array .int
  | 1 => .array .int
  | 2 => .array .int
  | _ => .int
theorem nmX2 : ∀ a, a < 4 → ∀ b, b < 4 → a ≠ b → (TX2 a).2.1 ≠ (TX2 b).2.1 := by decide +kernel
theorem tyX2_ok : ∀ k, k < 4 → parseFieldDescriptor (TX2 k).2.2.1 = some (tyX2 k) := by decide +kernel
abbrev cX2_init : ByteArray := prog_4_method_1_code
def yX2_init : MethodName := ⟨RX2, "<init>", "()V"⟩
abbrev cX2_keep : ByteArray := prog_4_method_2_code
def yX2_keep : MethodName := ⟨RX2, "keep", "(III)V"⟩
abbrev cX2_forgetOldest : ByteArray := prog_4_method_3_code
def yX2_forgetOldest : MethodName := ⟨RX2, "forgetOldest", "()V"⟩
def RX3 : String := "RankedEchoes$Row"
def TX3 : u_T := fun k => match k with
  | 0 => ("RankedEchoes$Row", "powers", "[I", true)
  | 1 => ("RankedEchoes$Row", "left", "[I", true)
  | 2 => ("RankedEchoes$Row", "look", "[I", true)
  | 3 => ("RankedEchoes$Row", "window", "[I", true)
  | 4 => ("RankedEchoes$Row", "inWindow", "I", false)
  | 5 => ("RankedEchoes$Row", "size", "I", false)
  | 6 => ("RankedEchoes$Row", "mode", "I", false)
  | _ => ("RankedEchoes$Row", "changed", "Z", false)
def tyX3 : Nat → FieldType := fun k => match k with
  | 0 => .array .int
  | 1 => .array .int
  | 2 => .array .int
  | 3 => .array .int
  | 4 => .int
  | 5 => .int
  | 6 => .int
  | _ => .boolean
theorem nmX3 : ∀ a, a < 8 → ∀ b, b < 8 → a ≠ b → (TX3 a).2.1 ≠ (TX3 b).2.1 := by decide +kernel
theorem tyX3_ok : ∀ k, k < 8 → parseFieldDescriptor (TX3 k).2.2.1 = some (tyX3 k) := by decide +kernel
abbrev cX3_init : ByteArray := prog_5_method_1_code
def yX3_init : MethodName := ⟨RX3, "<init>", "()V"⟩
abbrev cX3_has : ByteArray := prog_5_method_2_code
def yX3_has : MethodName := ⟨RX3, "has", "(I)Z"⟩
abbrev cX3_take : ByteArray := prog_5_method_3_code
def yX3_take : MethodName := ⟨RX3, "take", "(LRankedEchoes$Told;)V"⟩
abbrev cX3_setPower : ByteArray := prog_5_method_4_code
def yX3_setPower : MethodName := ⟨RX3, "setPower", "(II)V"⟩
abbrev cX3_setLeft : ByteArray := prog_5_method_5_code
def yX3_setLeft : MethodName := ⟨RX3, "setLeft", "(II)V"⟩
abbrev cX3_setLook : ByteArray := prog_5_method_6_code
def yX3_setLook : MethodName := ⟨RX3, "setLook", "(II)V"⟩
abbrev cX3_setMode : ByteArray := prog_5_method_7_code
def yX3_setMode : MethodName := ⟨RX3, "setMode", "(I)V"⟩
abbrev cX3_slideOn : ByteArray := prog_5_method_8_code
def yX3_slideOn : MethodName := ⟨RX3, "slideOn", "(I)V"⟩
abbrev cX3_slideBack : ByteArray := prog_5_method_9_code
def yX3_slideBack : MethodName := ⟨RX3, "slideBack", "(II)V"⟩
abbrev cX3_takeBack : ByteArray := prog_5_method_10_code
def yX3_takeBack : MethodName := ⟨RX3, "takeBack", "(III)V"⟩
abbrev cX3_howManyLeft : ByteArray := prog_5_method_11_code
def yX3_howManyLeft : MethodName := ⟨RX3, "howManyLeft", "()I"⟩
abbrev cX3_gather : ByteArray := prog_5_method_12_code
def yX3_gather : MethodName := ⟨RX3, "gather", "(III)I"⟩
abbrev cX3_gatherFrom : ByteArray := prog_5_method_13_code
def yX3_gatherFrom : MethodName := ⟨RX3, "gatherFrom", "(III)V"⟩
abbrev cX3_sortIn : ByteArray := prog_5_method_14_code
def yX3_sortIn : MethodName := ⟨RX3, "sortIn", "(I)V"⟩
abbrev cX3_floorOf : ByteArray := prog_5_method_15_code
def yX3_floorOf : MethodName := ⟨RX3, "floorOf", "(II)I"⟩
abbrev cX3_rankOn : ByteArray := prog_5_method_16_code
def yX3_rankOn : MethodName := ⟨RX3, "rankOn", "(III)I"⟩
abbrev cX3_outdoes : ByteArray := prog_5_method_17_code
def yX3_outdoes : MethodName := ⟨RX3, "outdoes", "(III)Z"⟩
abbrev cX3_alarmsWithout : ByteArray := prog_5_method_18_code
def yX3_alarmsWithout : MethodName := ⟨RX3, "alarmsWithout", "(II)Z"⟩
abbrev cX3_isHidden : ByteArray := prog_5_method_19_code
def yX3_isHidden : MethodName := ⟨RX3, "isHidden", "(II)Z"⟩
def RX4 : String := "RankedEchoes$Text"
def TX4 : u_T := fun k => match k with
  | 0 => ("RankedEchoes$Text", "letters", "[I", true)
  | 1 => ("RankedEchoes$Text", "numbers", "[I", true)
  | _ => ("RankedEchoes$Text", "length", "I", false)
def tyX4 : Nat → FieldType := fun k => match k with
  | 0 => .array .int
  | 1 => .array .int
  | _ => .int
theorem nmX4 : ∀ a, a < 3 → ∀ b, b < 3 → a ≠ b → (TX4 a).2.1 ≠ (TX4 b).2.1 := by decide +kernel
theorem tyX4_ok : ∀ k, k < 3 → parseFieldDescriptor (TX4 k).2.2.1 = some (tyX4 k) := by decide +kernel
abbrev cX4_init : ByteArray := prog_6_method_1_code
def yX4_init : MethodName := ⟨RX4, "<init>", "()V"⟩
abbrev cX4_append : ByteArray := prog_6_method_2_code
def yX4_append : MethodName := ⟨RX4, "append", "(I)V"⟩
abbrev cX4_readInto : ByteArray := prog_6_method_3_code
def yX4_readInto : MethodName := ⟨RX4, "readInto", "(LRankedEchoes$Told;)I"⟩
abbrev cX4_endOfItem : ByteArray := prog_6_method_4_code
def yX4_endOfItem : MethodName := ⟨RX4, "endOfItem", "(I)I"⟩
abbrev cX4_readItem : ByteArray := prog_6_method_5_code
def yX4_readItem : MethodName := ⟨RX4, "readItem", "(IILRankedEchoes$Told;)Z"⟩
abbrev cX4_readMode : ByteArray := prog_6_method_6_code
def yX4_readMode : MethodName := ⟨RX4, "readMode", "(IILRankedEchoes$Told;)Z"⟩
abbrev cX4_stands : ByteArray := prog_6_method_7_code
def yX4_stands : MethodName := ⟨RX4, "stands", "(Ljava/lang/String;II)Z"⟩
abbrev cX4_readNumbers : ByteArray := prog_6_method_8_code
def yX4_readNumbers : MethodName := ⟨RX4, "readNumbers", "(II)I"⟩
def RX5 : String := "RankedEchoes$Told"
def TX5 : u_T := fun k => match k with
  | 0 => ("RankedEchoes$Told", "powers", "[I", true)
  | 1 => ("RankedEchoes$Told", "look", "[I", true)
  | 2 => ("RankedEchoes$Told", "weights", "[I", true)
  | 3 => ("RankedEchoes$Told", "size", "I", false)
  | _ => ("RankedEchoes$Told", "mode", "I", false)
def tyX5 : Nat → FieldType := fun k => match k with
  | 0 => .array .int
  | 1 => .array .int
  | 2 => .array .int
  | 3 => .int
  | _ => .int
theorem nmX5 : ∀ a, a < 5 → ∀ b, b < 5 → a ≠ b → (TX5 a).2.1 ≠ (TX5 b).2.1 := by decide +kernel
theorem tyX5_ok : ∀ k, k < 5 → parseFieldDescriptor (TX5 k).2.2.1 = some (tyX5 k) := by decide +kernel
abbrev cX5_init : ByteArray := prog_7_method_1_code
def yX5_init : MethodName := ⟨RX5, "<init>", "()V"⟩
abbrev cX5_startAnew : ByteArray := prog_7_method_2_code
def yX5_startAnew : MethodName := ⟨RX5, "startAnew", "()V"⟩
abbrev cX5_addCells : ByteArray := prog_7_method_3_code
def yX5_addCells : MethodName := ⟨RX5, "addCells", "([II)Z"⟩
abbrev cX5_setLookTo : ByteArray := prog_7_method_4_code
def yX5_setLookTo : MethodName := ⟨RX5, "setLookTo", "([II)Z"⟩
abbrev cX5_setWeightsTo : ByteArray := prog_7_method_5_code
def yX5_setWeightsTo : MethodName := ⟨RX5, "setWeightsTo", "([II)Z"⟩
def RX6 : String := "RankedEchoes"
def TX6 : u_T := fun k => match k with
  | 0 => ("RankedEchoes", "text", "LRankedEchoes$Text;", true)
  | 1 => ("RankedEchoes", "told", "LRankedEchoes$Told;", true)
  | 2 => ("RankedEchoes", "row", "LRankedEchoes$Row;", true)
  | 3 => ("RankedEchoes", "alarms", "LRankedEchoes$Alarms;", true)
  | 4 => ("RankedEchoes", "dice", "LRankedEchoes$Dice;", true)
  | _ => ("RankedEchoes", "past", "LRankedEchoes$Past;", true)
def tyX6 : Nat → FieldType := fun k => match k with
  | 0 => .object "RankedEchoes$Text"
  | 1 => .object "RankedEchoes$Told"
  | 2 => .object "RankedEchoes$Row"
  | 3 => .object "RankedEchoes$Alarms"
  | 4 => .object "RankedEchoes$Dice"
  | _ => .object "RankedEchoes$Past"
theorem nmX6 : ∀ a, a < 6 → ∀ b, b < 6 → a ≠ b → (TX6 a).2.1 ≠ (TX6 b).2.1 := by decide +kernel
theorem tyX6_ok : ∀ k, k < 6 → parseFieldDescriptor (TX6 k).2.2.1 = some (tyX6 k) := by decide +kernel
abbrev cX6_init : ByteArray := prog_1_method_1_code
def yX6_init : MethodName := ⟨RX6, "<init>", "()V"⟩
abbrev cX6_write : ByteArray := prog_1_method_2_code
def yX6_write : MethodName := ⟨RX6, "write", "(I)I"⟩
abbrev cX6_wipe : ByteArray := prog_1_method_3_code
def yX6_wipe : MethodName := ⟨RX6, "wipe", "()I"⟩
abbrev cX6_fault : ByteArray := prog_1_method_4_code
def yX6_fault : MethodName := ⟨RX6, "fault", "()I"⟩
abbrev cX6_lay : ByteArray := prog_1_method_5_code
def yX6_lay : MethodName := ⟨RX6, "lay", "()I"⟩
abbrev cX6_layWhatIsTold : ByteArray := prog_1_method_6_code
def yX6_layWhatIsTold : MethodName := ⟨RX6, "layWhatIsTold", "()V"⟩
abbrev cX6_power : ByteArray := prog_1_method_7_code
def yX6_power : MethodName := ⟨RX6, "power", "(II)I"⟩
abbrev cX6_leave : ByteArray := prog_1_method_8_code
def yX6_leave : MethodName := ⟨RX6, "leave", "(II)I"⟩
abbrev cX6_look : ByteArray := prog_1_method_9_code
def yX6_look : MethodName := ⟨RX6, "look", "(II)I"⟩
abbrev cX6_mode : ByteArray := prog_1_method_10_code
def yX6_mode : MethodName := ⟨RX6, "mode", "(I)I"⟩
abbrev cX6_slide : ByteArray := prog_1_method_11_code
def yX6_slide : MethodName := ⟨RX6, "slide", "(I)I"⟩
abbrev cX6_undo : ByteArray := prog_1_method_12_code
def yX6_undo : MethodName := ⟨RX6, "undo", "()I"⟩
abbrev cX6_cell : ByteArray := prog_1_method_13_code
def yX6_cell : MethodName := ⟨RX6, "cell", "(II)I"⟩
abbrev cX6_ranked : ByteArray := prog_1_method_14_code
def yX6_ranked : MethodName := ⟨RX6, "ranked", "(III)I"⟩
abbrev cX6_hides : ByteArray := prog_1_method_15_code
def yX6_hides : MethodName := ⟨RX6, "hides", "(II)I"⟩
abbrev cX6_bunch : ByteArray := prog_1_method_16_code
def yX6_bunch : MethodName := ⟨RX6, "bunch", "(II)I"⟩
abbrev cX6_enough : ByteArray := prog_1_method_17_code
def yX6_enough : MethodName := ⟨RX6, "enough", "(I)I"⟩
abbrev cX6_noise : ByteArray := prog_1_method_18_code
def yX6_noise : MethodName := ⟨RX6, "noise", "(I)I"⟩
abbrev cX6_odds : ByteArray := prog_1_method_19_code
def yX6_odds : MethodName := ⟨RX6, "odds", "(I)J"⟩
abbrev cX6_factor : ByteArray := prog_1_method_20_code
def yX6_factor : MethodName := ⟨RX6, "factor", "(II)I"⟩
abbrev cX6_drawn : ByteArray := prog_1_method_21_code
def yX6_drawn : MethodName := ⟨RX6, "drawn", "(I)I"⟩
abbrev cX6_count : ByteArray := prog_1_method_22_code
def yX6_count : MethodName := ⟨RX6, "count", "(I)I"⟩
abbrev cX6_letterBehindCells : ByteArray := prog_1_method_23_code
def yX6_letterBehindCells : MethodName := ⟨RX6, "letterBehindCells", "(I)I"⟩
abbrev cX6_figuresOf : ByteArray := prog_1_method_24_code
def yX6_figuresOf : MethodName := ⟨RX6, "figuresOf", "(I)I"⟩
abbrev cX6_figureOf : ByteArray := prog_1_method_25_code
def yX6_figureOf : MethodName := ⟨RX6, "figureOf", "(II)I"⟩
abbrev cX6_isPower : ByteArray := prog_1_method_26_code
def yX6_isPower : MethodName := ⟨RX6, "isPower", "(I)Z"⟩
abbrev cX6_isLook : ByteArray := prog_1_method_27_code
def yX6_isLook : MethodName := ⟨RX6, "isLook", "(II)Z"⟩
abbrev cX6_commonDivisor : ByteArray := prog_1_method_28_code
def yX6_commonDivisor : MethodName := ⟨RX6, "commonDivisor", "(JJ)J"⟩
abbrev cX6_productIsNoMore : ByteArray := prog_1_method_29_code
def yX6_productIsNoMore : MethodName := ⟨RX6, "productIsNoMore", "(JJJJ)Z"⟩
def RX7 : String := "RankedEchoesModel"
def TX7 : u_T := fun k => match k with
  | 0 => ("RankedEchoesModel", "length", "I", false)
  | 1 => ("RankedEchoesModel", "text", "[I", true)
  | 2 => ("RankedEchoesModel", "cells", "I", false)
  | 3 => ("RankedEchoesModel", "noises", "I", false)
  | 4 => ("RankedEchoesModel", "noise", "[I", true)
  | 5 => ("RankedEchoesModel", "now", "[I", true)
  | 6 => ("RankedEchoesModel", "was", "[I", true)
  | 7 => ("RankedEchoesModel", "changes", "I", false)
  | 8 => ("RankedEchoesModel", "readCells", "I", false)
  | 9 => ("RankedEchoesModel", "readNoises", "I", false)
  | 10 => ("RankedEchoesModel", "read", "[I", true)
  | 11 => ("RankedEchoesModel", "readNoise", "[I", true)
  | 12 => ("RankedEchoesModel", "ends", "I", false)
  | 13 => ("RankedEchoesModel", "ranks", "[I", true)
  | _ => ("RankedEchoesModel", "ranked", "I", false)
def tyX7 : Nat → FieldType := fun k => match k with
  | 0 => .int
  | 1 => .array .int
  | 2 => .int
  | 3 => .int
  | 4 => .array .int
  | 5 => .array .int
  | 6 => .array .int
  | 7 => .int
  | 8 => .int
  | 9 => .int
  | 10 => .array .int
  | 11 => .array .int
  | 12 => .int
  | 13 => .array .int
  | _ => .int
theorem nmX7 : ∀ a, a < 15 → ∀ b, b < 15 → a ≠ b → (TX7 a).2.1 ≠ (TX7 b).2.1 := by decide +kernel
theorem tyX7_ok : ∀ k, k < 15 → parseFieldDescriptor (TX7 k).2.2.1 = some (tyX7 k) := by decide +kernel
abbrev cX7_init : ByteArray := prog_9_method_1_code
def yX7_init : MethodName := ⟨RX7, "<init>", "()V"⟩
abbrev cX7_adds : ByteArray := prog_9_method_2_code
def yX7_adds : MethodName := ⟨RX7, "adds", "(IIII)V"⟩
abbrev cX7_isIn : ByteArray := prog_9_method_3_code
def yX7_isIn : MethodName := ⟨RX7, "isIn", "(III)Z"⟩
abbrev cX7_clears : ByteArray := prog_9_method_4_code
def yX7_clears : MethodName := ⟨RX7, "clears", "()V"⟩
abbrev cX7_takes : ByteArray := prog_9_method_5_code
def yX7_takes : MethodName := ⟨RX7, "takes", "()V"⟩
abbrev cX7_letterAt : ByteArray := prog_9_method_6_code
def yX7_letterAt : MethodName := ⟨RX7, "letterAt", "(I)I"⟩
abbrev cX7_number : ByteArray := prog_9_method_7_code
def yX7_number : MethodName := ⟨RX7, "number", "(I)I"⟩
abbrev cX7_isWord : ByteArray := prog_9_method_8_code
def yX7_isWord : MethodName := ⟨RX7, "isWord", "(IIIII)Z"⟩
abbrev cX7_readsCells : ByteArray := prog_9_method_9_code
def yX7_readsCells : MethodName := ⟨RX7, "readsCells", "(I)Z"⟩
abbrev cX7_readsLook : ByteArray := prog_9_method_10_code
def yX7_readsLook : MethodName := ⟨RX7, "readsLook", "(I)Z"⟩
abbrev cX7_readsMode : ByteArray := prog_9_method_11_code
def yX7_readsMode : MethodName := ⟨RX7, "readsMode", "(I)Z"⟩
abbrev cX7_readsNoise : ByteArray := prog_9_method_12_code
def yX7_readsNoise : MethodName := ⟨RX7, "readsNoise", "(I)Z"⟩
abbrev cX7_readsItem : ByteArray := prog_9_method_13_code
def yX7_readsItem : MethodName := ⟨RX7, "readsItem", "(I)Z"⟩
abbrev cX7_reads : ByteArray := prog_9_method_14_code
def yX7_reads : MethodName := ⟨RX7, "reads", "()I"⟩
abbrev cX7_write : ByteArray := prog_9_method_15_code
def yX7_write : MethodName := ⟨RX7, "write", "(I)I"⟩
abbrev cX7_wipe : ByteArray := prog_9_method_16_code
def yX7_wipe : MethodName := ⟨RX7, "wipe", "()I"⟩
abbrev cX7_fault : ByteArray := prog_9_method_17_code
def yX7_fault : MethodName := ⟨RX7, "fault", "()I"⟩
abbrev cX7_lay : ByteArray := prog_9_method_18_code
def yX7_lay : MethodName := ⟨RX7, "lay", "()I"⟩
abbrev cX7_least : ByteArray := prog_9_method_19_code
def yX7_least : MethodName := ⟨RX7, "least", "(I)I"⟩
abbrev cX7_most : ByteArray := prog_9_method_20_code
def yX7_most : MethodName := ⟨RX7, "most", "(I)I"⟩
abbrev cX7_keeps : ByteArray := prog_9_method_21_code
def yX7_keeps : MethodName := ⟨RX7, "keeps", "()V"⟩
abbrev cX7_becomes : ByteArray := prog_9_method_22_code
def yX7_becomes : MethodName := ⟨RX7, "becomes", "(II)I"⟩
abbrev cX7_isCell : ByteArray := prog_9_method_23_code
def yX7_isCell : MethodName := ⟨RX7, "isCell", "(I)Z"⟩
abbrev cX7_power : ByteArray := prog_9_method_24_code
def yX7_power : MethodName := ⟨RX7, "power", "(II)I"⟩
abbrev cX7_leftOut : ByteArray := prog_9_method_25_code
def yX7_leftOut : MethodName := ⟨RX7, "leftOut", "()I"⟩
abbrev cX7_leave : ByteArray := prog_9_method_26_code
def yX7_leave : MethodName := ⟨RX7, "leave", "(II)I"⟩
abbrev cX7_look : ByteArray := prog_9_method_27_code
def yX7_look : MethodName := ⟨RX7, "look", "(II)I"⟩
abbrev cX7_mode : ByteArray := prog_9_method_28_code
def yX7_mode : MethodName := ⟨RX7, "mode", "(I)I"⟩
abbrev cX7_slide : ByteArray := prog_9_method_29_code
def yX7_slide : MethodName := ⟨RX7, "slide", "(I)I"⟩
abbrev cX7_undo : ByteArray := prog_9_method_30_code
def yX7_undo : MethodName := ⟨RX7, "undo", "()I"⟩
abbrev cX7_meets : ByteArray := prog_9_method_31_code
def yX7_meets : MethodName := ⟨RX7, "meets", "(II)V"⟩
abbrev cX7_rank : ByteArray := prog_9_method_32_code
def yX7_rank : MethodName := ⟨RX7, "rank", "(II)I"⟩
abbrev cX7_byRank : ByteArray := prog_9_method_33_code
def yX7_byRank : MethodName := ⟨RX7, "byRank", "(II)I"⟩
abbrev cX7_floorOf : ByteArray := prog_9_method_34_code
def yX7_floorOf : MethodName := ⟨RX7, "floorOf", "(I)I"⟩
abbrev cX7_isAlarm : ByteArray := prog_9_method_35_code
def yX7_isAlarm : MethodName := ⟨RX7, "isAlarm", "(I)Z"⟩
abbrev cX7_alarms : ByteArray := prog_9_method_36_code
def yX7_alarms : MethodName := ⟨RX7, "alarms", "()I"⟩
abbrev cX7_bunchesTo : ByteArray := prog_9_method_37_code
def yX7_bunchesTo : MethodName := ⟨RX7, "bunchesTo", "(I)I"⟩
abbrev cX7_cell : ByteArray := prog_9_method_38_code
def yX7_cell : MethodName := ⟨RX7, "cell", "(II)I"⟩
abbrev cX7_ranked : ByteArray := prog_9_method_39_code
def yX7_ranked : MethodName := ⟨RX7, "ranked", "(III)I"⟩
abbrev cX7_hides1 : ByteArray := prog_9_method_40_code
def yX7_hides1 : MethodName := ⟨RX7, "hides1", "(II)Z"⟩
abbrev cX7_hides : ByteArray := prog_9_method_41_code
def yX7_hides : MethodName := ⟨RX7, "hides", "(II)I"⟩
abbrev cX7_bunches : ByteArray := prog_9_method_42_code
def yX7_bunches : MethodName := ⟨RX7, "bunches", "()I"⟩
abbrev cX7_firstOf : ByteArray := prog_9_method_43_code
def yX7_firstOf : MethodName := ⟨RX7, "firstOf", "(I)I"⟩
abbrev cX7_lastFrom : ByteArray := prog_9_method_44_code
def yX7_lastFrom : MethodName := ⟨RX7, "lastFrom", "(I)I"⟩
abbrev cX7_peak : ByteArray := prog_9_method_45_code
def yX7_peak : MethodName := ⟨RX7, "peak", "(I)I"⟩
abbrev cX7_bunch : ByteArray := prog_9_method_46_code
def yX7_bunch : MethodName := ⟨RX7, "bunch", "(II)I"⟩
abbrev cX7_enough : ByteArray := prog_9_method_47_code
def yX7_enough : MethodName := ⟨RX7, "enough", "(I)I"⟩
abbrev cX7_noise : ByteArray := prog_9_method_48_code
def yX7_noise : MethodName := ⟨RX7, "noise", "(I)I"⟩
abbrev cX7_weight : ByteArray := prog_9_method_49_code
def yX7_weight : MethodName := ⟨RX7, "weight", "()I"⟩
abbrev cX7_power1 : ByteArray := prog_9_method_50_code
def yX7_power1 : MethodName := ⟨RX7, "power1", "(JI)J"⟩
abbrev cX7_choose : ByteArray := prog_9_method_51_code
def yX7_choose : MethodName := ⟨RX7, "choose", "(II)J"⟩
abbrev cX7_within : ByteArray := prog_9_method_52_code
def yX7_within : MethodName := ⟨RX7, "within", "(IJ)J"⟩
abbrev cX7_floors : ByteArray := prog_9_method_53_code
def yX7_floors : MethodName := ⟨RX7, "floors", "(J)J"⟩
abbrev cX7_falses : ByteArray := prog_9_method_54_code
def yX7_falses : MethodName := ⟨RX7, "falses", "(I)J"⟩
abbrev cX7_allWays : ByteArray := prog_9_method_55_code
def yX7_allWays : MethodName := ⟨RX7, "allWays", "()J"⟩
abbrev cX7_common : ByteArray := prog_9_method_56_code
def yX7_common : MethodName := ⟨RX7, "common", "(JJ)J"⟩
abbrev cX7_odds : ByteArray := prog_9_method_57_code
def yX7_odds : MethodName := ⟨RX7, "odds", "(I)J"⟩
abbrev cX7_isNoMore : ByteArray := prog_9_method_58_code
def yX7_isNoMore : MethodName := ⟨RX7, "isNoMore", "(JJJJ)Z"⟩
abbrev cX7_factor : ByteArray := prog_9_method_59_code
def yX7_factor : MethodName := ⟨RX7, "factor", "(II)I"⟩
abbrev cX7_figure : ByteArray := prog_9_method_60_code
def yX7_figure : MethodName := ⟨RX7, "figure", "(II)I"⟩
abbrev cX7_sign : ByteArray := prog_9_method_61_code
def yX7_sign : MethodName := ⟨RX7, "sign", "(I)I"⟩
abbrev cX7_drawn : ByteArray := prog_9_method_62_code
def yX7_drawn : MethodName := ⟨RX7, "drawn", "(I)I"⟩
abbrev cX7_count : ByteArray := prog_9_method_63_code
def yX7_count : MethodName := ⟨RX7, "count", "(I)I"⟩
def RJx145de : String := "java/io/Serializable"
def TJx145de : u_T := fun k => match k with
  | _ => ("", "", "", false)
def tyJx145de : Nat → FieldType := fun k => match k with
  | _ => .int
theorem nmJx145de : ∀ a, a < 0 → ∀ b, b < 0 → a ≠ b → (TJx145de a).2.1 ≠ (TJx145de b).2.1 := by decide +kernel
theorem tyJx145de_ok : ∀ k, k < 0 → parseFieldDescriptor (TJx145de k).2.2.1 = some (tyJx145de k) := by decide +kernel
def RJx9f9b0 : String := "java/lang/CharSequence"
def TJx9f9b0 : u_T := fun k => match k with
  | _ => ("", "", "", false)
def tyJx9f9b0 : Nat → FieldType := fun k => match k with
  | _ => .int
theorem nmJx9f9b0 : ∀ a, a < 0 → ∀ b, b < 0 → a ≠ b → (TJx9f9b0 a).2.1 ≠ (TJx9f9b0 b).2.1 := by decide +kernel
theorem tyJx9f9b0_ok : ∀ k, k < 0 → parseFieldDescriptor (TJx9f9b0 k).2.2.1 = some (tyJx9f9b0 k) := by decide +kernel
def RJxb160c : String := "java/lang/Comparable"
def TJxb160c : u_T := fun k => match k with
  | _ => ("", "", "", false)
def tyJxb160c : Nat → FieldType := fun k => match k with
  | _ => .int
theorem nmJxb160c : ∀ a, a < 0 → ∀ b, b < 0 → a ≠ b → (TJxb160c a).2.1 ≠ (TJxb160c b).2.1 := by decide +kernel
theorem tyJxb160c_ok : ∀ k, k < 0 → parseFieldDescriptor (TJxb160c k).2.2.1 = some (tyJxb160c k) := by decide +kernel
def RJ9 : String := "java/lang/Math"
def TJ9 : u_T := fun k => match k with
  | _ => ("", "", "", false)
def tyJ9 : Nat → FieldType := fun k => match k with
  | _ => .int
theorem nmJ9 : ∀ a, a < 0 → ∀ b, b < 0 → a ≠ b → (TJ9 a).2.1 ≠ (TJ9 b).2.1 := by decide +kernel
theorem tyJ9_ok : ∀ k, k < 0 → parseFieldDescriptor (TJ9 k).2.2.1 = some (tyJ9 k) := by decide +kernel
abbrev cJ9_max_7cf53 : ByteArray := prog_10_method_65_code
def yJ9_max_7cf53 : MethodName := ⟨RJ9, "max", "(II)I"⟩
abbrev cJ9_min_7cf53 : ByteArray := prog_10_method_69_code
def yJ9_min_7cf53 : MethodName := ⟨RJ9, "min", "(II)I"⟩
def RJ0 : String := "java/lang/String"
def TJ0 : u_T := fun k => match k with
  | _ => ("", "", "", false)
def tyJ0 : Nat → FieldType := fun k => match k with
  | _ => .int
theorem nmJ0 : ∀ a, a < 0 → ∀ b, b < 0 → a ≠ b → (TJ0 a).2.1 ≠ (TJ0 b).2.1 := by decide +kernel
theorem tyJ0_ok : ∀ k, k < 0 → parseFieldDescriptor (TJ0 k).2.2.1 = some (tyJ0 k) := by decide +kernel
abbrev cJ0_length_8abf5 : ByteArray := prog_11_method_54_code
def yJ0_length_8abf5 : MethodName := ⟨RJ0, "length", "()I"⟩
abbrev cJ0_charAt_5068e : ByteArray := prog_11_method_56_code
def yJ0_charAt_5068e : MethodName := ⟨RJ0, "charAt", "(I)C"⟩
abbrev cJ0_coder_7d493 : ByteArray := prog_11_method_152_code
def yJ0_coder_7d493 : MethodName := ⟨RJ0, "coder", "()B"⟩
abbrev cJ0_isLatin1_aae02 : ByteArray := prog_11_method_154_code
def yJ0_isLatin1_aae02 : MethodName := ⟨RJ0, "isLatin1", "()Z"⟩
abbrev cJ0_checkIndex_df160 : ByteArray := prog_11_method_155_code
def yJ0_checkIndex_df160 : MethodName := ⟨RJ0, "checkIndex", "(II)V"⟩
def RJ1 : String := "java/lang/StringLatin1"
def TJ1 : u_T := fun k => match k with
  | _ => ("", "", "", false)
def tyJ1 : Nat → FieldType := fun k => match k with
  | _ => .int
theorem nmJ1 : ∀ a, a < 0 → ∀ b, b < 0 → a ≠ b → (TJ1 a).2.1 ≠ (TJ1 b).2.1 := by decide +kernel
theorem tyJ1_ok : ∀ k, k < 0 → parseFieldDescriptor (TJ1 k).2.2.1 = some (tyJ1 k) := by decide +kernel
abbrev cJ1_charAt_3b067 : ByteArray := prog_12_method_2_code
def yJ1_charAt_3b067 : MethodName := ⟨RJ1, "charAt", "([BI)C"⟩
def RJ2 : String := "java/lang/StringUTF16"
def TJ2 : u_T := fun k => match k with
  | _ => ("", "", "", false)
def tyJ2 : Nat → FieldType := fun k => match k with
  | _ => .int
theorem nmJ2 : ∀ a, a < 0 → ∀ b, b < 0 → a ≠ b → (TJ2 a).2.1 ≠ (TJ2 b).2.1 := by decide +kernel
theorem tyJ2_ok : ∀ k, k < 0 → parseFieldDescriptor (TJ2 k).2.2.1 = some (tyJ2 k) := by decide +kernel
abbrev cJ2_getChar_3b067 : ByteArray := prog_13_method_5_code
def yJ2_getChar_3b067 : MethodName := ⟨RJ2, "getChar", "([BI)C"⟩
abbrev cJ2_length_9d52b : ByteArray := prog_13_method_6_code
def yJ2_length_9d52b : MethodName := ⟨RJ2, "length", "([B)I"⟩
abbrev cJ2_charAt_3b067 : ByteArray := prog_13_method_83_code
def yJ2_charAt_3b067 : MethodName := ⟨RJ2, "charAt", "([BI)C"⟩
abbrev cJ2_checkIndex_2214a : ByteArray := prog_13_method_91_code
def yJ2_checkIndex_2214a : MethodName := ⟨RJ2, "checkIndex", "(I[B)V"⟩
def RJ10 : String := "java/lang/System"
def TJ10 : u_T := fun k => match k with
  | _ => ("", "", "", false)
def tyJ10 : Nat → FieldType := fun k => match k with
  | _ => .int
theorem nmJ10 : ∀ a, a < 0 → ∀ b, b < 0 → a ≠ b → (TJ10 a).2.1 ≠ (TJ10 b).2.1 := by decide +kernel
theorem tyJ10_ok : ∀ k, k < 0 → parseFieldDescriptor (TJ10 k).2.2.1 = some (tyJ10 k) := by decide +kernel
def RJxfd54e : String := "java/lang/constant/Constable"
def TJxfd54e : u_T := fun k => match k with
  | _ => ("", "", "", false)
def tyJxfd54e : Nat → FieldType := fun k => match k with
  | _ => .int
theorem nmJxfd54e : ∀ a, a < 0 → ∀ b, b < 0 → a ≠ b → (TJxfd54e a).2.1 ≠ (TJxfd54e b).2.1 := by decide +kernel
theorem tyJxfd54e_ok : ∀ k, k < 0 → parseFieldDescriptor (TJxfd54e k).2.2.1 = some (tyJxfd54e k) := by decide +kernel
def RJx3cf43 : String := "java/lang/constant/ConstantDesc"
def TJx3cf43 : u_T := fun k => match k with
  | _ => ("", "", "", false)
def tyJx3cf43 : Nat → FieldType := fun k => match k with
  | _ => .int
theorem nmJx3cf43 : ∀ a, a < 0 → ∀ b, b < 0 → a ≠ b → (TJx3cf43 a).2.1 ≠ (TJx3cf43 b).2.1 := by decide +kernel
theorem tyJx3cf43_ok : ∀ k, k < 0 → parseFieldDescriptor (TJx3cf43 k).2.2.1 = some (tyJx3cf43 k) := by decide +kernel
def RJ7 : String := "java/util/Arrays"
def TJ7 : u_T := fun k => match k with
  | _ => ("", "", "", false)
def tyJ7 : Nat → FieldType := fun k => match k with
  | _ => .int
theorem nmJ7 : ∀ a, a < 0 → ∀ b, b < 0 → a ≠ b → (TJ7 a).2.1 ≠ (TJ7 b).2.1 := by decide +kernel
theorem tyJ7_ok : ∀ k, k < 0 → parseFieldDescriptor (TJ7 k).2.2.1 = some (tyJ7 k) := by decide +kernel
abbrev cJ7_fill_d0a16 : ByteArray := prog_15_method_101_code
def yJ7_fill_d0a16 : MethodName := ⟨RJ7, "fill", "([JJ)V"⟩
abbrev cJ7_fill_53178 : ByteArray := prog_15_method_103_code
def yJ7_fill_53178 : MethodName := ⟨RJ7, "fill", "([II)V"⟩
def RJ3 : String := "jdk/internal/util/Preconditions"
def TJ3 : u_T := fun k => match k with
  | _ => ("", "", "", false)
def tyJ3 : Nat → FieldType := fun k => match k with
  | _ => .int
theorem nmJ3 : ∀ a, a < 0 → ∀ b, b < 0 → a ≠ b → (TJ3 a).2.1 ≠ (TJ3 b).2.1 := by decide +kernel
theorem tyJ3_ok : ∀ k, k < 0 → parseFieldDescriptor (TJ3 k).2.2.1 = some (tyJ3 k) := by decide +kernel
abbrev cJ3_checkIndex_8e157 : ByteArray := prog_16_method_11_code
def yJ3_checkIndex_8e157 : MethodName := ⟨RJ3, "checkIndex", "(IILjava/util/function/BiFunction;)I"⟩
def RL : String := "RankedEchoesLaw"
abbrev cL_law : ByteArray := code
def yL_law : MethodName := ⟨RL, "law", "([I)Z"⟩
abbrev vwCl : List vw_C := [(RX0, TX0, 7), (RX1, TX1, 4), (RX2, TX2, 4), (RX3, TX3, 8), (RX4, TX4, 3), (RX5, TX5, 5), (RX6, TX6, 6), (RX7, TX7, 15)]
def lw_big : List Cond := lw_tbl.filter goodWord
theorem bg {w : Cond} (i : Nat) (h : lw_tbl[i]? = some w) (g : goodWord w = true) : w ∈ lw_big := List.mem_filter.mpr ⟨List.mem_of_getElem? h, g⟩
theorem big_good : GoodIn lw_big lw_big := fun _ h => ⟨h, good_of_word (List.mem_filter.mp h).2⟩
theorem big_tbl : GoodIn lw_tbl lw_big := fun _ h => ⟨(List.mem_filter.mp h).1, good_of_word (List.mem_filter.mp h).2⟩
theorem big_ws {ws : List Cond} (hm : ∀ w ∈ ws, w ∈ lw_tbl) (h : ws.all goodWord = true) : ∀ w ∈ ws, w ∈ lw_big := fun w hw => List.mem_filter.mpr ⟨hm w hw, List.all_eq_true.mp h w hw⟩
theorem se_X6_layWhatIsTold : Cond.selects RX6 yX6_layWhatIsTold yX6_layWhatIsTold ∈ lw_big := bg 0 (by decide +kernel) (by decide +kernel)
theorem se_X4_endOfItem : Cond.selects RX4 yX4_endOfItem yX4_endOfItem ∈ lw_big := bg 1 (by decide +kernel) (by decide +kernel)
theorem se_X4_readItem : Cond.selects RX4 yX4_readItem yX4_readItem ∈ lw_big := bg 2 (by decide +kernel) (by decide +kernel)
theorem se_X4_stands : Cond.selects RX4 yX4_stands yX4_stands ∈ lw_big := bg 3 (by decide +kernel) (by decide +kernel)
theorem se_X4_readMode : Cond.selects RX4 yX4_readMode yX4_readMode ∈ lw_big := bg 4 (by decide +kernel) (by decide +kernel)
theorem se_X4_readNumbers : Cond.selects RX4 yX4_readNumbers yX4_readNumbers ∈ lw_big := bg 5 (by decide +kernel) (by decide +kernel)
theorem se_X2_forgetOldest : Cond.selects RX2 yX2_forgetOldest yX2_forgetOldest ∈ lw_big := bg 6 (by decide +kernel) (by decide +kernel)
theorem se_X3_slideBack : Cond.selects RX3 yX3_slideBack yX3_slideBack ∈ lw_big := bg 7 (by decide +kernel) (by decide +kernel)
theorem se_X3_gatherFrom : Cond.selects RX3 yX3_gatherFrom yX3_gatherFrom ∈ lw_big := bg 8 (by decide +kernel) (by decide +kernel)
theorem se_X3_sortIn : Cond.selects RX3 yX3_sortIn yX3_sortIn ∈ lw_big := bg 9 (by decide +kernel) (by decide +kernel)
theorem se_X3_rankOn : Cond.selects RX3 yX3_rankOn yX3_rankOn ∈ lw_big := bg 10 (by decide +kernel) (by decide +kernel)
theorem se_X0_addToBunch : Cond.selects RX0 yX0_addToBunch yX0_addToBunch ∈ lw_big := bg 11 (by decide +kernel) (by decide +kernel)
theorem se_X1_waysOfFloorAtMost : Cond.selects RX1 yX1_waysOfFloorAtMost yX1_waysOfFloorAtMost ∈ lw_big := bg 12 (by decide +kernel) (by decide +kernel)
theorem se_X1_waysOfRankAtMost : Cond.selects RX1 yX1_waysOfRankAtMost yX1_waysOfRankAtMost ∈ lw_big := bg 13 (by decide +kernel) (by decide +kernel)
theorem se_X1_raised : Cond.selects RX1 yX1_raised yX1_raised ∈ lw_big := bg 14 (by decide +kernel) (by decide +kernel)
theorem se_X6_letterBehindCells : Cond.selects RX6 yX6_letterBehindCells yX6_letterBehindCells ∈ lw_big := bg 15 (by decide +kernel) (by decide +kernel)
theorem se_X7_clears : Cond.selects RX7 yX7_clears yX7_clears ∈ lw_big := bg 16 (by decide +kernel) (by decide +kernel)
theorem se_X7_adds : Cond.selects RX7 yX7_adds yX7_adds ∈ lw_big := bg 17 (by decide +kernel) (by decide +kernel)
theorem se_X7_takes : Cond.selects RX7 yX7_takes yX7_takes ∈ lw_big := bg 18 (by decide +kernel) (by decide +kernel)
theorem se_X7_reads : Cond.selects RX7 yX7_reads yX7_reads ∈ lw_big := bg 19 (by decide +kernel) (by decide +kernel)
theorem se_X7_readsItem : Cond.selects RX7 yX7_readsItem yX7_readsItem ∈ lw_big := bg 20 (by decide +kernel) (by decide +kernel)
theorem se_X7_letterAt : Cond.selects RX7 yX7_letterAt yX7_letterAt ∈ lw_big := bg 21 (by decide +kernel) (by decide +kernel)
theorem se_X7_isWord : Cond.selects RX7 yX7_isWord yX7_isWord ∈ lw_big := bg 22 (by decide +kernel) (by decide +kernel)
theorem se_X7_readsCells : Cond.selects RX7 yX7_readsCells yX7_readsCells ∈ lw_big := bg 23 (by decide +kernel) (by decide +kernel)
theorem se_X7_number : Cond.selects RX7 yX7_number yX7_number ∈ lw_big := bg 24 (by decide +kernel) (by decide +kernel)
theorem se_X7_readsLook : Cond.selects RX7 yX7_readsLook yX7_readsLook ∈ lw_big := bg 25 (by decide +kernel) (by decide +kernel)
theorem se_X7_readsMode : Cond.selects RX7 yX7_readsMode yX7_readsMode ∈ lw_big := bg 26 (by decide +kernel) (by decide +kernel)
theorem se_X7_readsNoise : Cond.selects RX7 yX7_readsNoise yX7_readsNoise ∈ lw_big := bg 27 (by decide +kernel) (by decide +kernel)
theorem se_X7_isCell : Cond.selects RX7 yX7_isCell yX7_isCell ∈ lw_big := bg 28 (by decide +kernel) (by decide +kernel)
theorem se_X7_becomes : Cond.selects RX7 yX7_becomes yX7_becomes ∈ lw_big := bg 29 (by decide +kernel) (by decide +kernel)
theorem se_X7_keeps : Cond.selects RX7 yX7_keeps yX7_keeps ∈ lw_big := bg 30 (by decide +kernel) (by decide +kernel)
theorem se_X7_leftOut : Cond.selects RX7 yX7_leftOut yX7_leftOut ∈ lw_big := bg 31 (by decide +kernel) (by decide +kernel)
theorem se_X7_rank : Cond.selects RX7 yX7_rank yX7_rank ∈ lw_big := bg 32 (by decide +kernel) (by decide +kernel)
theorem se_X7_meets : Cond.selects RX7 yX7_meets yX7_meets ∈ lw_big := bg 33 (by decide +kernel) (by decide +kernel)
theorem se_X7_floorOf : Cond.selects RX7 yX7_floorOf yX7_floorOf ∈ lw_big := bg 34 (by decide +kernel) (by decide +kernel)
theorem se_X7_byRank : Cond.selects RX7 yX7_byRank yX7_byRank ∈ lw_big := bg 35 (by decide +kernel) (by decide +kernel)
theorem se_X7_isAlarm : Cond.selects RX7 yX7_isAlarm yX7_isAlarm ∈ lw_big := bg 36 (by decide +kernel) (by decide +kernel)
theorem se_X7_bunchesTo : Cond.selects RX7 yX7_bunchesTo yX7_bunchesTo ∈ lw_big := bg 37 (by decide +kernel) (by decide +kernel)
theorem se_X7_hides1 : Cond.selects RX7 yX7_hides1 yX7_hides1 ∈ lw_big := bg 38 (by decide +kernel) (by decide +kernel)
theorem se_X7_bunches : Cond.selects RX7 yX7_bunches yX7_bunches ∈ lw_big := bg 39 (by decide +kernel) (by decide +kernel)
theorem se_X7_firstOf : Cond.selects RX7 yX7_firstOf yX7_firstOf ∈ lw_big := bg 40 (by decide +kernel) (by decide +kernel)
theorem se_X7_lastFrom : Cond.selects RX7 yX7_lastFrom yX7_lastFrom ∈ lw_big := bg 41 (by decide +kernel) (by decide +kernel)
theorem se_X7_peak : Cond.selects RX7 yX7_peak yX7_peak ∈ lw_big := bg 42 (by decide +kernel) (by decide +kernel)
theorem se_X7_alarms : Cond.selects RX7 yX7_alarms yX7_alarms ∈ lw_big := bg 43 (by decide +kernel) (by decide +kernel)
theorem se_X7_falses : Cond.selects RX7 yX7_falses yX7_falses ∈ lw_big := bg 44 (by decide +kernel) (by decide +kernel)
theorem se_X7_floors : Cond.selects RX7 yX7_floors yX7_floors ∈ lw_big := bg 45 (by decide +kernel) (by decide +kernel)
theorem se_X7_within : Cond.selects RX7 yX7_within yX7_within ∈ lw_big := bg 46 (by decide +kernel) (by decide +kernel)
theorem se_X7_weight : Cond.selects RX7 yX7_weight yX7_weight ∈ lw_big := bg 47 (by decide +kernel) (by decide +kernel)
theorem se_X7_allWays : Cond.selects RX7 yX7_allWays yX7_allWays ∈ lw_big := bg 48 (by decide +kernel) (by decide +kernel)
theorem se_X7_sign : Cond.selects RX7 yX7_sign yX7_sign ∈ lw_big := bg 49 (by decide +kernel) (by decide +kernel)
theorem in_L : Cond.initialized RL ∈ lw_big := bg 50 (by decide +kernel) (by decide +kernel)
theorem in_X6 : Cond.initialized RX6 ∈ lw_big := bg 51 (by decide +kernel) (by decide +kernel)
theorem in_X4 : Cond.initialized RX4 ∈ lw_big := bg 52 (by decide +kernel) (by decide +kernel)
theorem in_X5 : Cond.initialized RX5 ∈ lw_big := bg 53 (by decide +kernel) (by decide +kernel)
theorem in_X3 : Cond.initialized RX3 ∈ lw_big := bg 54 (by decide +kernel) (by decide +kernel)
theorem in_X0 : Cond.initialized RX0 ∈ lw_big := bg 55 (by decide +kernel) (by decide +kernel)
theorem in_X1 : Cond.initialized RX1 ∈ lw_big := bg 56 (by decide +kernel) (by decide +kernel)
theorem in_X2 : Cond.initialized RX2 ∈ lw_big := bg 57 (by decide +kernel) (by decide +kernel)
theorem in_J10 : Cond.initialized RJ10 ∈ lw_big := bg 58 (by decide +kernel) (by decide +kernel)
theorem in_J7 : Cond.initialized RJ7 ∈ lw_big := bg 59 (by decide +kernel) (by decide +kernel)
theorem in_X7 : Cond.initialized RX7 ∈ lw_big := bg 60 (by decide +kernel) (by decide +kernel)
theorem in_J0 : Cond.initialized RJ0 ∈ lw_big := bg 61 (by decide +kernel) (by decide +kernel)
theorem in_J1 : Cond.initialized RJ1 ∈ lw_big := bg 62 (by decide +kernel) (by decide +kernel)
theorem in_J3 : Cond.initialized RJ3 ∈ lw_big := bg 63 (by decide +kernel) (by decide +kernel)
theorem in_J2 : Cond.initialized RJ2 ∈ lw_big := bg 64 (by decide +kernel) (by decide +kernel)
theorem in_J9 : Cond.initialized RJ9 ∈ lw_big := bg 65 (by decide +kernel) (by decide +kernel)
theorem cl_L_7 : Cond.classLink RL 7 RX6 ∈ lw_big := bg 66 (by decide +kernel) (by decide +kernel)
theorem ia_X6 : Cond.instantiable RX6 6 ∈ lw_big := bg 67 (by decide +kernel) (by decide +kernel)
theorem ml_L_9 : Cond.methodLink RL 9 yX6_init ∈ lw_big := bg 68 (by decide +kernel) (by decide +kernel)
theorem im_X6_init : Cond.instanceMethod yX6_init ∈ lw_big := bg 69 (by decide +kernel) (by decide +kernel)
theorem cw_X6_init : Cond.code yX6_init cX6_init 1 none ∈ lw_big := bg 70 (by decide +kernel) (by decide +kernel)
theorem ml_X6_1 : Cond.methodLink RX6 1 objectInit ∈ lw_big := bg 71 (by decide +kernel) (by decide +kernel)
theorem im_objectInit : Cond.instanceMethod objectInit ∈ lw_big := bg 72 (by decide +kernel) (by decide +kernel)
theorem cw_objectInit : Cond.code objectInit ⟨#[0xb1]⟩ 1 none ∈ lw_big := bg 73 (by decide +kernel) (by decide +kernel)
theorem cl_X6_7 : Cond.classLink RX6 7 RX4 ∈ lw_big := bg 74 (by decide +kernel) (by decide +kernel)
theorem ia_X4 : Cond.instantiable RX4 3 ∈ lw_big := bg 75 (by decide +kernel) (by decide +kernel)
theorem im_X4_init : Cond.instanceMethod yX4_init ∈ lw_big := bg 77 (by decide +kernel) (by decide +kernel)
theorem cw_X4_init : Cond.code yX4_init cX4_init 1 none ∈ lw_big := bg 78 (by decide +kernel) (by decide +kernel)
theorem ml_X4_3 : Cond.methodLink RX4 3 objectInit ∈ lw_big := bg 79 (by decide +kernel) (by decide +kernel)
theorem fl_X4_9 : Cond.fieldLink RX4 9 "RankedEchoes$Text" "letters" "[I" ∈ lw_big := bg 80 (by decide +kernel) (by decide +kernel)
theorem fl_X4_15 : Cond.fieldLink RX4 15 "RankedEchoes$Text" "numbers" "[I" ∈ lw_big := bg 81 (by decide +kernel) (by decide +kernel)
theorem fl_X4_18 : Cond.fieldLink RX4 18 "RankedEchoes$Text" "length" "I" ∈ lw_big := bg 82 (by decide +kernel) (by decide +kernel)
theorem fl_X6_65 : Cond.fieldLink RX6 65 "RankedEchoes$Text" "length" "I" ∈ lw_big := bg 83 (by decide +kernel) (by decide +kernel)
theorem ac_int : Cond.arrayClass .int ∈ lw_big := bg 91 (by decide +kernel) (by decide +kernel)
theorem cl_X6_16 : Cond.classLink RX6 16 RX5 ∈ lw_big := bg 92 (by decide +kernel) (by decide +kernel)
theorem ia_X5 : Cond.instantiable RX5 5 ∈ lw_big := bg 93 (by decide +kernel) (by decide +kernel)
theorem im_X5_init : Cond.instanceMethod yX5_init ∈ lw_big := bg 95 (by decide +kernel) (by decide +kernel)
theorem cw_X5_init : Cond.code yX5_init cX5_init 1 none ∈ lw_big := bg 96 (by decide +kernel) (by decide +kernel)
theorem ml_X5_3 : Cond.methodLink RX5 3 objectInit ∈ lw_big := bg 97 (by decide +kernel) (by decide +kernel)
theorem fl_X5_9 : Cond.fieldLink RX5 9 "RankedEchoes$Told" "powers" "[I" ∈ lw_big := bg 100 (by decide +kernel) (by decide +kernel)
theorem fl_X3_31 : Cond.fieldLink RX3 31 "RankedEchoes$Told" "powers" "[I" ∈ lw_big := bg 101 (by decide +kernel) (by decide +kernel)
theorem fl_X5_18 : Cond.fieldLink RX5 18 "RankedEchoes$Told" "look" "[I" ∈ lw_big := bg 102 (by decide +kernel) (by decide +kernel)
theorem fl_X3_40 : Cond.fieldLink RX3 40 "RankedEchoes$Told" "look" "[I" ∈ lw_big := bg 103 (by decide +kernel) (by decide +kernel)
theorem fl_X5_21 : Cond.fieldLink RX5 21 "RankedEchoes$Told" "weights" "[I" ∈ lw_big := bg 104 (by decide +kernel) (by decide +kernel)
theorem fl_X1_26 : Cond.fieldLink RX1 26 "RankedEchoes$Told" "weights" "[I" ∈ lw_big := bg 105 (by decide +kernel) (by decide +kernel)
theorem fl_X5_24 : Cond.fieldLink RX5 24 "RankedEchoes$Told" "size" "I" ∈ lw_big := bg 106 (by decide +kernel) (by decide +kernel)
theorem fl_X3_47 : Cond.fieldLink RX3 47 "RankedEchoes$Told" "size" "I" ∈ lw_big := bg 107 (by decide +kernel) (by decide +kernel)
theorem fl_X6_77 : Cond.fieldLink RX6 77 "RankedEchoes$Told" "size" "I" ∈ lw_big := bg 108 (by decide +kernel) (by decide +kernel)
theorem fl_X5_28 : Cond.fieldLink RX5 28 "RankedEchoes$Told" "mode" "I" ∈ lw_big := bg 109 (by decide +kernel) (by decide +kernel)
theorem fl_X3_48 : Cond.fieldLink RX3 48 "RankedEchoes$Told" "mode" "I" ∈ lw_big := bg 110 (by decide +kernel) (by decide +kernel)
theorem fl_X4_66 : Cond.fieldLink RX4 66 "RankedEchoes$Told" "mode" "I" ∈ lw_big := bg 111 (by decide +kernel) (by decide +kernel)
theorem cl_X6_23 : Cond.classLink RX6 23 RX3 ∈ lw_big := bg 123 (by decide +kernel) (by decide +kernel)
theorem ia_X3 : Cond.instantiable RX3 8 ∈ lw_big := bg 124 (by decide +kernel) (by decide +kernel)
theorem im_X3_init : Cond.instanceMethod yX3_init ∈ lw_big := bg 126 (by decide +kernel) (by decide +kernel)
theorem cw_X3_init : Cond.code yX3_init cX3_init 1 none ∈ lw_big := bg 127 (by decide +kernel) (by decide +kernel)
theorem ml_X3_3 : Cond.methodLink RX3 3 objectInit ∈ lw_big := bg 128 (by decide +kernel) (by decide +kernel)
theorem fl_X3_9 : Cond.fieldLink RX3 9 "RankedEchoes$Row" "powers" "[I" ∈ lw_big := bg 130 (by decide +kernel) (by decide +kernel)
theorem fl_X0_58 : Cond.fieldLink RX0 58 "RankedEchoes$Row" "powers" "[I" ∈ lw_big := bg 131 (by decide +kernel) (by decide +kernel)
theorem fl_X6_94 : Cond.fieldLink RX6 94 "RankedEchoes$Row" "powers" "[I" ∈ lw_big := bg 132 (by decide +kernel) (by decide +kernel)
theorem fl_X3_15 : Cond.fieldLink RX3 15 "RankedEchoes$Row" "left" "[I" ∈ lw_big := bg 133 (by decide +kernel) (by decide +kernel)
theorem fl_X6_105 : Cond.fieldLink RX6 105 "RankedEchoes$Row" "left" "[I" ∈ lw_big := bg 134 (by decide +kernel) (by decide +kernel)
theorem fl_X3_21 : Cond.fieldLink RX3 21 "RankedEchoes$Row" "look" "[I" ∈ lw_big := bg 135 (by decide +kernel) (by decide +kernel)
theorem fl_X0_47 : Cond.fieldLink RX0 47 "RankedEchoes$Row" "look" "[I" ∈ lw_big := bg 136 (by decide +kernel) (by decide +kernel)
theorem fl_X6_119 : Cond.fieldLink RX6 119 "RankedEchoes$Row" "look" "[I" ∈ lw_big := bg 137 (by decide +kernel) (by decide +kernel)
theorem fl_X3_24 : Cond.fieldLink RX3 24 "RankedEchoes$Row" "window" "[I" ∈ lw_big := bg 138 (by decide +kernel) (by decide +kernel)
theorem fl_X6_164 : Cond.fieldLink RX6 164 "RankedEchoes$Row" "window" "[I" ∈ lw_big := bg 139 (by decide +kernel) (by decide +kernel)
theorem fl_X3_81 : Cond.fieldLink RX3 81 "RankedEchoes$Row" "inWindow" "I" ∈ lw_big := bg 140 (by decide +kernel) (by decide +kernel)
theorem fl_X3_27 : Cond.fieldLink RX3 27 "RankedEchoes$Row" "size" "I" ∈ lw_big := bg 141 (by decide +kernel) (by decide +kernel)
theorem fl_X0_40 : Cond.fieldLink RX0 40 "RankedEchoes$Row" "size" "I" ∈ lw_big := bg 142 (by decide +kernel) (by decide +kernel)
theorem fl_X6_80 : Cond.fieldLink RX6 80 "RankedEchoes$Row" "size" "I" ∈ lw_big := bg 143 (by decide +kernel) (by decide +kernel)
theorem fl_X3_51 : Cond.fieldLink RX3 51 "RankedEchoes$Row" "mode" "I" ∈ lw_big := bg 144 (by decide +kernel) (by decide +kernel)
theorem fl_X6_125 : Cond.fieldLink RX6 125 "RankedEchoes$Row" "mode" "I" ∈ lw_big := bg 145 (by decide +kernel) (by decide +kernel)
theorem fl_X0_27 : Cond.fieldLink RX0 27 "RankedEchoes$Row" "changed" "Z" ∈ lw_big := bg 146 (by decide +kernel) (by decide +kernel)
theorem fl_X3_52 : Cond.fieldLink RX3 52 "RankedEchoes$Row" "changed" "Z" ∈ lw_big := bg 147 (by decide +kernel) (by decide +kernel)
theorem cl_X6_30 : Cond.classLink RX6 30 RX0 ∈ lw_big := bg 165 (by decide +kernel) (by decide +kernel)
theorem ia_X0 : Cond.instantiable RX0 7 ∈ lw_big := bg 166 (by decide +kernel) (by decide +kernel)
theorem im_X0_init : Cond.instanceMethod yX0_init ∈ lw_big := bg 168 (by decide +kernel) (by decide +kernel)
theorem cw_X0_init : Cond.code yX0_init cX0_init 1 none ∈ lw_big := bg 169 (by decide +kernel) (by decide +kernel)
theorem ml_X0_3 : Cond.methodLink RX0 3 objectInit ∈ lw_big := bg 170 (by decide +kernel) (by decide +kernel)
theorem fl_X0_9 : Cond.fieldLink RX0 9 "RankedEchoes$Alarms" "floors" "[I" ∈ lw_big := bg 171 (by decide +kernel) (by decide +kernel)
theorem fl_X0_15 : Cond.fieldLink RX0 15 "RankedEchoes$Alarms" "bunchOf" "[I" ∈ lw_big := bg 172 (by decide +kernel) (by decide +kernel)
theorem fl_X6_161 : Cond.fieldLink RX6 161 "RankedEchoes$Alarms" "bunchOf" "[I" ∈ lw_big := bg 173 (by decide +kernel) (by decide +kernel)
theorem fl_X0_18 : Cond.fieldLink RX0 18 "RankedEchoes$Alarms" "firsts" "[I" ∈ lw_big := bg 174 (by decide +kernel) (by decide +kernel)
theorem fl_X6_173 : Cond.fieldLink RX6 173 "RankedEchoes$Alarms" "firsts" "[I" ∈ lw_big := bg 175 (by decide +kernel) (by decide +kernel)
theorem fl_X0_21 : Cond.fieldLink RX0 21 "RankedEchoes$Alarms" "lasts" "[I" ∈ lw_big := bg 176 (by decide +kernel) (by decide +kernel)
theorem fl_X6_176 : Cond.fieldLink RX6 176 "RankedEchoes$Alarms" "lasts" "[I" ∈ lw_big := bg 177 (by decide +kernel) (by decide +kernel)
theorem fl_X0_24 : Cond.fieldLink RX0 24 "RankedEchoes$Alarms" "peaks" "[I" ∈ lw_big := bg 178 (by decide +kernel) (by decide +kernel)
theorem fl_X6_179 : Cond.fieldLink RX6 179 "RankedEchoes$Alarms" "peaks" "[I" ∈ lw_big := bg 179 (by decide +kernel) (by decide +kernel)
theorem fl_X0_33 : Cond.fieldLink RX0 33 "RankedEchoes$Alarms" "howMany" "I" ∈ lw_big := bg 180 (by decide +kernel) (by decide +kernel)
theorem fl_X6_219 : Cond.fieldLink RX6 219 "RankedEchoes$Alarms" "howMany" "I" ∈ lw_big := bg 181 (by decide +kernel) (by decide +kernel)
theorem fl_X0_37 : Cond.fieldLink RX0 37 "RankedEchoes$Alarms" "bunches" "I" ∈ lw_big := bg 182 (by decide +kernel) (by decide +kernel)
theorem fl_X6_170 : Cond.fieldLink RX6 170 "RankedEchoes$Alarms" "bunches" "I" ∈ lw_big := bg 183 (by decide +kernel) (by decide +kernel)
theorem cl_X6_37 : Cond.classLink RX6 37 RX1 ∈ lw_big := bg 199 (by decide +kernel) (by decide +kernel)
theorem ia_X1 : Cond.instantiable RX1 4 ∈ lw_big := bg 200 (by decide +kernel) (by decide +kernel)
theorem im_X1_init : Cond.instanceMethod yX1_init ∈ lw_big := bg 202 (by decide +kernel) (by decide +kernel)
theorem cw_X1_init : Cond.code yX1_init cX1_init 1 none ∈ lw_big := bg 203 (by decide +kernel) (by decide +kernel)
theorem ml_X1_3 : Cond.methodLink RX1 3 objectInit ∈ lw_big := bg 204 (by decide +kernel) (by decide +kernel)
theorem fl_X1_9 : Cond.fieldLink RX1 9 "RankedEchoes$Dice" "weights" "[I" ∈ lw_big := bg 205 (by decide +kernel) (by decide +kernel)
theorem fl_X6_186 : Cond.fieldLink RX6 186 "RankedEchoes$Dice" "weights" "[I" ∈ lw_big := bg 206 (by decide +kernel) (by decide +kernel)
theorem fl_X1_15 : Cond.fieldLink RX1 15 "RankedEchoes$Dice" "waysByHowMany" "[J" ∈ lw_big := bg 207 (by decide +kernel) (by decide +kernel)
theorem fl_X1_19 : Cond.fieldLink RX1 19 "RankedEchoes$Dice" "floorWays" "[J" ∈ lw_big := bg 208 (by decide +kernel) (by decide +kernel)
theorem fl_X1_22 : Cond.fieldLink RX1 22 "RankedEchoes$Dice" "together" "I" ∈ lw_big := bg 209 (by decide +kernel) (by decide +kernel)
theorem ac_long : Cond.arrayClass .long ∈ lw_big := bg 219 (by decide +kernel) (by decide +kernel)
theorem cl_X6_44 : Cond.classLink RX6 44 RX2 ∈ lw_big := bg 220 (by decide +kernel) (by decide +kernel)
theorem ia_X2 : Cond.instantiable RX2 4 ∈ lw_big := bg 221 (by decide +kernel) (by decide +kernel)
theorem im_X2_init : Cond.instanceMethod yX2_init ∈ lw_big := bg 223 (by decide +kernel) (by decide +kernel)
theorem cw_X2_init : Cond.code yX2_init cX2_init 1 none ∈ lw_big := bg 224 (by decide +kernel) (by decide +kernel)
theorem ml_X2_3 : Cond.methodLink RX2 3 objectInit ∈ lw_big := bg 225 (by decide +kernel) (by decide +kernel)
theorem fl_X2_9 : Cond.fieldLink RX2 9 "RankedEchoes$Past" "kinds" "[I" ∈ lw_big := bg 226 (by decide +kernel) (by decide +kernel)
theorem fl_X6_134 : Cond.fieldLink RX6 134 "RankedEchoes$Past" "kinds" "[I" ∈ lw_big := bg 227 (by decide +kernel) (by decide +kernel)
theorem fl_X2_15 : Cond.fieldLink RX2 15 "RankedEchoes$Past" "places" "[I" ∈ lw_big := bg 228 (by decide +kernel) (by decide +kernel)
theorem fl_X6_137 : Cond.fieldLink RX6 137 "RankedEchoes$Past" "places" "[I" ∈ lw_big := bg 229 (by decide +kernel) (by decide +kernel)
theorem fl_X2_18 : Cond.fieldLink RX2 18 "RankedEchoes$Past" "values" "[I" ∈ lw_big := bg 230 (by decide +kernel) (by decide +kernel)
theorem fl_X6_140 : Cond.fieldLink RX6 140 "RankedEchoes$Past" "values" "[I" ∈ lw_big := bg 231 (by decide +kernel) (by decide +kernel)
theorem fl_X2_21 : Cond.fieldLink RX2 21 "RankedEchoes$Past" "size" "I" ∈ lw_big := bg 232 (by decide +kernel) (by decide +kernel)
theorem fl_X6_86 : Cond.fieldLink RX6 86 "RankedEchoes$Past" "size" "I" ∈ lw_big := bg 233 (by decide +kernel) (by decide +kernel)
theorem ml_X6_51 : Cond.methodLink RX6 51 yX5_startAnew ∈ lw_big := bg 243 (by decide +kernel) (by decide +kernel)
theorem im_X5_startAnew : Cond.instanceMethod yX5_startAnew ∈ lw_big := bg 244 (by decide +kernel) (by decide +kernel)
theorem se_X5_startAnew : Cond.selects RX5 yX5_startAnew yX5_startAnew ∈ lw_big := bg 245 (by decide +kernel) (by decide +kernel)
theorem cw_X5_startAnew : Cond.code yX5_startAnew cX5_startAnew 1 none ∈ lw_big := bg 246 (by decide +kernel) (by decide +kernel)
theorem ml_X5_31 : Cond.methodLink RX5 31 arraycopyName ∈ lw_big := bg 247 (by decide +kernel) (by decide +kernel)
theorem st_arraycopyName : Cond.static arraycopyName ∈ lw_big := bg 248 (by decide +kernel) (by decide +kernel)
theorem nv_arraycopyName : Cond.native arraycopyName ∈ lw_big := bg 249 (by decide +kernel) (by decide +kernel)
theorem fl_X6_54 : Cond.fieldLink RX6 54 "RankedEchoes" "FIRST_CELLS" "[I" ∈ lw_big := bg 252 (by decide +kernel) (by decide +kernel)
theorem ml_X6_58 : Cond.methodLink RX6 58 yX5_addCells ∈ lw_big := bg 254 (by decide +kernel) (by decide +kernel)
theorem im_X5_addCells : Cond.instanceMethod yX5_addCells ∈ lw_big := bg 255 (by decide +kernel) (by decide +kernel)
theorem se_X5_addCells : Cond.selects RX5 yX5_addCells yX5_addCells ∈ lw_big := bg 256 (by decide +kernel) (by decide +kernel)
theorem cw_X5_addCells : Cond.code yX5_addCells cX5_addCells 3 (some .boolean) ∈ lw_big := bg 257 (by decide +kernel) (by decide +kernel)
theorem ml_X6_62 : Cond.methodLink RX6 62 yX6_layWhatIsTold ∈ lw_big := bg 258 (by decide +kernel) (by decide +kernel)
theorem im_X6_layWhatIsTold : Cond.instanceMethod yX6_layWhatIsTold ∈ lw_big := bg 260 (by decide +kernel) (by decide +kernel)
theorem cw_X6_layWhatIsTold : Cond.code yX6_layWhatIsTold cX6_layWhatIsTold 1 none ∈ lw_big := bg 261 (by decide +kernel) (by decide +kernel)
theorem ml_X6_81 : Cond.methodLink RX6 81 yX3_take ∈ lw_big := bg 262 (by decide +kernel) (by decide +kernel)
theorem im_X3_take : Cond.instanceMethod yX3_take ∈ lw_big := bg 263 (by decide +kernel) (by decide +kernel)
theorem se_X3_take : Cond.selects RX3 yX3_take yX3_take ∈ lw_big := bg 264 (by decide +kernel) (by decide +kernel)
theorem cw_X3_take : Cond.code yX3_take cX3_take 2 none ∈ lw_big := bg 265 (by decide +kernel) (by decide +kernel)
theorem ml_X3_34 : Cond.methodLink RX3 34 arraycopyName ∈ lw_big := bg 266 (by decide +kernel) (by decide +kernel)
theorem ml_X3_41 : Cond.methodLink RX3 41 yJ7_fill_53178 ∈ lw_big := bg 267 (by decide +kernel) (by decide +kernel)
theorem st_J7_fill_53178 : Cond.static yJ7_fill_53178 ∈ lw_big := bg 268 (by decide +kernel) (by decide +kernel)
theorem cw_J7_fill_53178 : Cond.code yJ7_fill_53178 cJ7_fill_53178 4 none ∈ lw_big := bg 269 (by decide +kernel) (by decide +kernel)
theorem ml_X6_85 : Cond.methodLink RX6 85 yX1_take ∈ lw_big := bg 270 (by decide +kernel) (by decide +kernel)
theorem im_X1_take : Cond.instanceMethod yX1_take ∈ lw_big := bg 271 (by decide +kernel) (by decide +kernel)
theorem se_X1_take : Cond.selects RX1 yX1_take yX1_take ∈ lw_big := bg 272 (by decide +kernel) (by decide +kernel)
theorem cw_X1_take : Cond.code yX1_take cX1_take 3 none ∈ lw_big := bg 273 (by decide +kernel) (by decide +kernel)
theorem fl_X6_10 : Cond.fieldLink RX6 10 "RankedEchoes" "text" "LRankedEchoes$Text;" ∈ lw_big := bg 274 (by decide +kernel) (by decide +kernel)
theorem fl_X6_19 : Cond.fieldLink RX6 19 "RankedEchoes" "told" "LRankedEchoes$Told;" ∈ lw_big := bg 275 (by decide +kernel) (by decide +kernel)
theorem fl_X6_26 : Cond.fieldLink RX6 26 "RankedEchoes" "row" "LRankedEchoes$Row;" ∈ lw_big := bg 276 (by decide +kernel) (by decide +kernel)
theorem fl_X6_33 : Cond.fieldLink RX6 33 "RankedEchoes" "alarms" "LRankedEchoes$Alarms;" ∈ lw_big := bg 277 (by decide +kernel) (by decide +kernel)
theorem fl_X6_40 : Cond.fieldLink RX6 40 "RankedEchoes" "dice" "LRankedEchoes$Dice;" ∈ lw_big := bg 278 (by decide +kernel) (by decide +kernel)
theorem fl_X6_47 : Cond.fieldLink RX6 47 "RankedEchoes" "past" "LRankedEchoes$Past;" ∈ lw_big := bg 279 (by decide +kernel) (by decide +kernel)
theorem ml_L_13 : Cond.methodLink RL 13 yX6_write ∈ lw_big := bg 293 (by decide +kernel) (by decide +kernel)
theorem im_X6_write : Cond.instanceMethod yX6_write ∈ lw_big := bg 294 (by decide +kernel) (by decide +kernel)
theorem se_X6_write : Cond.selects RX6 yX6_write yX6_write ∈ lw_big := bg 295 (by decide +kernel) (by decide +kernel)
theorem cw_X6_write : Cond.code yX6_write cX6_write 2 (some .int) ∈ lw_big := bg 296 (by decide +kernel) (by decide +kernel)
theorem ml_X6_69 : Cond.methodLink RX6 69 yX4_append ∈ lw_big := bg 297 (by decide +kernel) (by decide +kernel)
theorem im_X4_append : Cond.instanceMethod yX4_append ∈ lw_big := bg 298 (by decide +kernel) (by decide +kernel)
theorem se_X4_append : Cond.selects RX4 yX4_append yX4_append ∈ lw_big := bg 299 (by decide +kernel) (by decide +kernel)
theorem cw_X4_append : Cond.code yX4_append cX4_append 2 none ∈ lw_big := bg 300 (by decide +kernel) (by decide +kernel)
theorem ml_L_18 : Cond.methodLink RL 18 yX6_wipe ∈ lw_big := bg 301 (by decide +kernel) (by decide +kernel)
theorem im_X6_wipe : Cond.instanceMethod yX6_wipe ∈ lw_big := bg 302 (by decide +kernel) (by decide +kernel)
theorem se_X6_wipe : Cond.selects RX6 yX6_wipe yX6_wipe ∈ lw_big := bg 303 (by decide +kernel) (by decide +kernel)
theorem cw_X6_wipe : Cond.code yX6_wipe cX6_wipe 2 (some .int) ∈ lw_big := bg 304 (by decide +kernel) (by decide +kernel)
theorem ml_L_23 : Cond.methodLink RL 23 yX6_fault ∈ lw_big := bg 305 (by decide +kernel) (by decide +kernel)
theorem im_X6_fault : Cond.instanceMethod yX6_fault ∈ lw_big := bg 306 (by decide +kernel) (by decide +kernel)
theorem se_X6_fault : Cond.selects RX6 yX6_fault yX6_fault ∈ lw_big := bg 307 (by decide +kernel) (by decide +kernel)
theorem cw_X6_fault : Cond.code yX6_fault cX6_fault 1 (some .int) ∈ lw_big := bg 308 (by decide +kernel) (by decide +kernel)
theorem ml_X6_73 : Cond.methodLink RX6 73 yX4_readInto ∈ lw_big := bg 309 (by decide +kernel) (by decide +kernel)
theorem im_X4_readInto : Cond.instanceMethod yX4_readInto ∈ lw_big := bg 310 (by decide +kernel) (by decide +kernel)
theorem se_X4_readInto : Cond.selects RX4 yX4_readInto yX4_readInto ∈ lw_big := bg 311 (by decide +kernel) (by decide +kernel)
theorem cw_X4_readInto : Cond.code yX4_readInto cX4_readInto 5 (some .int) ∈ lw_big := bg 312 (by decide +kernel) (by decide +kernel)
theorem ml_X4_22 : Cond.methodLink RX4 22 yX5_startAnew ∈ lw_big := bg 313 (by decide +kernel) (by decide +kernel)
theorem ml_X4_27 : Cond.methodLink RX4 27 yX4_endOfItem ∈ lw_big := bg 314 (by decide +kernel) (by decide +kernel)
theorem im_X4_endOfItem : Cond.instanceMethod yX4_endOfItem ∈ lw_big := bg 316 (by decide +kernel) (by decide +kernel)
theorem cw_X4_endOfItem : Cond.code yX4_endOfItem cX4_endOfItem 3 (some .int) ∈ lw_big := bg 317 (by decide +kernel) (by decide +kernel)
theorem ml_X4_31 : Cond.methodLink RX4 31 yX4_readItem ∈ lw_big := bg 318 (by decide +kernel) (by decide +kernel)
theorem im_X4_readItem : Cond.instanceMethod yX4_readItem ∈ lw_big := bg 320 (by decide +kernel) (by decide +kernel)
theorem cw_X4_readItem : Cond.code yX4_readItem cX4_readItem 5 (some .boolean) ∈ lw_big := bg 321 (by decide +kernel) (by decide +kernel)
theorem ml_X4_37 : Cond.methodLink RX4 37 yX4_stands ∈ lw_big := bg 323 (by decide +kernel) (by decide +kernel)
theorem im_X4_stands : Cond.instanceMethod yX4_stands ∈ lw_big := bg 325 (by decide +kernel) (by decide +kernel)
theorem cw_X4_stands : Cond.code yX4_stands cX4_stands 5 (some .boolean) ∈ lw_big := bg 326 (by decide +kernel) (by decide +kernel)
theorem ml_X4_73 : Cond.methodLink RX4 73 yJ0_length_8abf5 ∈ lw_big := bg 327 (by decide +kernel) (by decide +kernel)
theorem im_J0_length_8abf5 : Cond.instanceMethod yJ0_length_8abf5 ∈ lw_big := bg 328 (by decide +kernel) (by decide +kernel)
theorem se_J0_length_8abf5 : Cond.selects RJ0 yJ0_length_8abf5 yJ0_length_8abf5 ∈ lw_big := bg 329 (by decide +kernel) (by decide +kernel)
theorem cw_J0_length_8abf5 : Cond.code yJ0_length_8abf5 cJ0_length_8abf5 1 (some .int) ∈ lw_big := bg 330 (by decide +kernel) (by decide +kernel)
theorem ml_J0_335 : Cond.methodLink RJ0 335 yJ0_coder_7d493 ∈ lw_big := bg 331 (by decide +kernel) (by decide +kernel)
theorem im_J0_coder_7d493 : Cond.instanceMethod yJ0_coder_7d493 ∈ lw_big := bg 332 (by decide +kernel) (by decide +kernel)
theorem se_J0_coder_7d493 : Cond.selects RJ0 yJ0_coder_7d493 yJ0_coder_7d493 ∈ lw_big := bg 333 (by decide +kernel) (by decide +kernel)
theorem cw_J0_coder_7d493 : Cond.code yJ0_coder_7d493 cJ0_coder_7d493 1 (some .byte) ∈ lw_big := bg 334 (by decide +kernel) (by decide +kernel)
theorem fl_J0_38 : Cond.fieldLink RJ0 38 "java/lang/String" "COMPACT_STRINGS" "Z" ∈ lw_big := bg 335 (by decide +kernel) (by decide +kernel)
theorem ml_X4_78 : Cond.methodLink RX4 78 yJ0_charAt_5068e ∈ lw_big := bg 337 (by decide +kernel) (by decide +kernel)
theorem im_J0_charAt_5068e : Cond.instanceMethod yJ0_charAt_5068e ∈ lw_big := bg 338 (by decide +kernel) (by decide +kernel)
theorem se_J0_charAt_5068e : Cond.selects RJ0 yJ0_charAt_5068e yJ0_charAt_5068e ∈ lw_big := bg 339 (by decide +kernel) (by decide +kernel)
theorem cw_J0_charAt_5068e : Cond.code yJ0_charAt_5068e cJ0_charAt_5068e 2 (some .char) ∈ lw_big := bg 340 (by decide +kernel) (by decide +kernel)
theorem ml_J0_492 : Cond.methodLink RJ0 492 yJ0_isLatin1_aae02 ∈ lw_big := bg 341 (by decide +kernel) (by decide +kernel)
theorem im_J0_isLatin1_aae02 : Cond.instanceMethod yJ0_isLatin1_aae02 ∈ lw_big := bg 342 (by decide +kernel) (by decide +kernel)
theorem se_J0_isLatin1_aae02 : Cond.selects RJ0 yJ0_isLatin1_aae02 yJ0_isLatin1_aae02 ∈ lw_big := bg 343 (by decide +kernel) (by decide +kernel)
theorem cw_J0_isLatin1_aae02 : Cond.code yJ0_isLatin1_aae02 cJ0_isLatin1_aae02 1 (some .boolean) ∈ lw_big := bg 344 (by decide +kernel) (by decide +kernel)
theorem ml_J0_495 : Cond.methodLink RJ0 495 yJ1_charAt_3b067 ∈ lw_big := bg 345 (by decide +kernel) (by decide +kernel)
theorem st_J1_charAt_3b067 : Cond.static yJ1_charAt_3b067 ∈ lw_big := bg 346 (by decide +kernel) (by decide +kernel)
theorem cw_J1_charAt_3b067 : Cond.code yJ1_charAt_3b067 cJ1_charAt_3b067 2 (some .char) ∈ lw_big := bg 347 (by decide +kernel) (by decide +kernel)
theorem ml_J1_9 : Cond.methodLink RJ1 9 yJ0_checkIndex_df160 ∈ lw_big := bg 348 (by decide +kernel) (by decide +kernel)
theorem st_J0_checkIndex_df160 : Cond.static yJ0_checkIndex_df160 ∈ lw_big := bg 349 (by decide +kernel) (by decide +kernel)
theorem cw_J0_checkIndex_df160 : Cond.code yJ0_checkIndex_df160 cJ0_checkIndex_df160 2 none ∈ lw_big := bg 350 (by decide +kernel) (by decide +kernel)
theorem fl_J0_1053 : Cond.fieldLink RJ0 1053 "jdk/internal/util/Preconditions" "SIOOBE_FORMATTER" "Ljava/util/function/BiFunction;" ∈ lw_big := bg 351 (by decide +kernel) (by decide +kernel)
theorem ml_J0_1059 : Cond.methodLink RJ0 1059 yJ3_checkIndex_8e157 ∈ lw_big := bg 353 (by decide +kernel) (by decide +kernel)
theorem st_J3_checkIndex_8e157 : Cond.static yJ3_checkIndex_8e157 ∈ lw_big := bg 354 (by decide +kernel) (by decide +kernel)
theorem cw_J3_checkIndex_8e157 : Cond.code yJ3_checkIndex_8e157 cJ3_checkIndex_8e157 3 (some .int) ∈ lw_big := bg 355 (by decide +kernel) (by decide +kernel)
theorem ml_J0_498 : Cond.methodLink RJ0 498 yJ2_charAt_3b067 ∈ lw_big := bg 356 (by decide +kernel) (by decide +kernel)
theorem st_J2_charAt_3b067 : Cond.static yJ2_charAt_3b067 ∈ lw_big := bg 357 (by decide +kernel) (by decide +kernel)
theorem cw_J2_charAt_3b067 : Cond.code yJ2_charAt_3b067 cJ2_charAt_3b067 2 (some .char) ∈ lw_big := bg 358 (by decide +kernel) (by decide +kernel)
theorem ml_J2_67 : Cond.methodLink RJ2 67 yJ2_checkIndex_2214a ∈ lw_big := bg 359 (by decide +kernel) (by decide +kernel)
theorem st_J2_checkIndex_2214a : Cond.static yJ2_checkIndex_2214a ∈ lw_big := bg 360 (by decide +kernel) (by decide +kernel)
theorem cw_J2_checkIndex_2214a : Cond.code yJ2_checkIndex_2214a cJ2_checkIndex_2214a 2 none ∈ lw_big := bg 361 (by decide +kernel) (by decide +kernel)
theorem ml_J2_48 : Cond.methodLink RJ2 48 yJ2_length_9d52b ∈ lw_big := bg 362 (by decide +kernel) (by decide +kernel)
theorem st_J2_length_9d52b : Cond.static yJ2_length_9d52b ∈ lw_big := bg 363 (by decide +kernel) (by decide +kernel)
theorem cw_J2_length_9d52b : Cond.code yJ2_length_9d52b cJ2_length_9d52b 1 (some .int) ∈ lw_big := bg 364 (by decide +kernel) (by decide +kernel)
theorem ml_J2_414 : Cond.methodLink RJ2 414 yJ0_checkIndex_df160 ∈ lw_big := bg 365 (by decide +kernel) (by decide +kernel)
theorem ml_J2_71 : Cond.methodLink RJ2 71 yJ2_getChar_3b067 ∈ lw_big := bg 366 (by decide +kernel) (by decide +kernel)
theorem st_J2_getChar_3b067 : Cond.static yJ2_getChar_3b067 ∈ lw_big := bg 367 (by decide +kernel) (by decide +kernel)
theorem cw_J2_getChar_3b067 : Cond.code yJ2_getChar_3b067 cJ2_getChar_3b067 2 (some .char) ∈ lw_big := bg 368 (by decide +kernel) (by decide +kernel)
theorem fl_J2_44 : Cond.fieldLink RJ2 44 "java/lang/StringUTF16" "$assertionsDisabled" "Z" ∈ lw_big := bg 369 (by decide +kernel) (by decide +kernel)
theorem fl_J2_59 : Cond.fieldLink RJ2 59 "java/lang/StringUTF16" "HI_BYTE_SHIFT" "I" ∈ lw_big := bg 371 (by decide +kernel) (by decide +kernel)
theorem fl_J2_63 : Cond.fieldLink RJ2 63 "java/lang/StringUTF16" "LO_BYTE_SHIFT" "I" ∈ lw_big := bg 373 (by decide +kernel) (by decide +kernel)
theorem ml_X4_41 : Cond.methodLink RX4 41 yX4_readMode ∈ lw_big := bg 375 (by decide +kernel) (by decide +kernel)
theorem im_X4_readMode : Cond.instanceMethod yX4_readMode ∈ lw_big := bg 377 (by decide +kernel) (by decide +kernel)
theorem cw_X4_readMode : Cond.code yX4_readMode cX4_readMode 4 (some .boolean) ∈ lw_big := bg 378 (by decide +kernel) (by decide +kernel)
theorem ml_X4_46 : Cond.methodLink RX4 46 yX4_readNumbers ∈ lw_big := bg 383 (by decide +kernel) (by decide +kernel)
theorem im_X4_readNumbers : Cond.instanceMethod yX4_readNumbers ∈ lw_big := bg 385 (by decide +kernel) (by decide +kernel)
theorem cw_X4_readNumbers : Cond.code yX4_readNumbers cX4_readNumbers 8 (some .int) ∈ lw_big := bg 386 (by decide +kernel) (by decide +kernel)
theorem ml_X4_50 : Cond.methodLink RX4 50 yX5_addCells ∈ lw_big := bg 387 (by decide +kernel) (by decide +kernel)
theorem ml_X4_56 : Cond.methodLink RX4 56 yX5_setLookTo ∈ lw_big := bg 389 (by decide +kernel) (by decide +kernel)
theorem im_X5_setLookTo : Cond.instanceMethod yX5_setLookTo ∈ lw_big := bg 390 (by decide +kernel) (by decide +kernel)
theorem se_X5_setLookTo : Cond.selects RX5 yX5_setLookTo yX5_setLookTo ∈ lw_big := bg 391 (by decide +kernel) (by decide +kernel)
theorem cw_X5_setLookTo : Cond.code yX5_setLookTo cX5_setLookTo 4 (some .boolean) ∈ lw_big := bg 392 (by decide +kernel) (by decide +kernel)
theorem st_X6_isLook : Cond.static yX6_isLook ∈ lw_big := bg 394 (by decide +kernel) (by decide +kernel)
theorem cw_X6_isLook : Cond.code yX6_isLook cX6_isLook 2 (some .boolean) ∈ lw_big := bg 395 (by decide +kernel) (by decide +kernel)
theorem fl_X6_228 : Cond.fieldLink RX6 228 "RankedEchoes" "LOOK_LEAST" "[I" ∈ lw_big := bg 396 (by decide +kernel) (by decide +kernel)
theorem fl_X6_231 : Cond.fieldLink RX6 231 "RankedEchoes" "LOOK_MOST" "[I" ∈ lw_big := bg 398 (by decide +kernel) (by decide +kernel)
theorem ml_X4_61 : Cond.methodLink RX4 61 yX5_setWeightsTo ∈ lw_big := bg 401 (by decide +kernel) (by decide +kernel)
theorem im_X5_setWeightsTo : Cond.instanceMethod yX5_setWeightsTo ∈ lw_big := bg 402 (by decide +kernel) (by decide +kernel)
theorem se_X5_setWeightsTo : Cond.selects RX5 yX5_setWeightsTo yX5_setWeightsTo ∈ lw_big := bg 403 (by decide +kernel) (by decide +kernel)
theorem cw_X5_setWeightsTo : Cond.code yX5_setWeightsTo cX5_setWeightsTo 5 (some .boolean) ∈ lw_big := bg 404 (by decide +kernel) (by decide +kernel)
theorem ml_X5_44 : Cond.methodLink RX5 44 yJ7_fill_53178 ∈ lw_big := bg 405 (by decide +kernel) (by decide +kernel)
theorem ac_byte : Cond.arrayClass .byte ∈ lw_big := bg 406 (by decide +kernel) (by decide +kernel)
theorem ml_L_27 : Cond.methodLink RL 27 yX6_lay ∈ lw_big := bg 407 (by decide +kernel) (by decide +kernel)
theorem im_X6_lay : Cond.instanceMethod yX6_lay ∈ lw_big := bg 408 (by decide +kernel) (by decide +kernel)
theorem se_X6_lay : Cond.selects RX6 yX6_lay yX6_lay ∈ lw_big := bg 409 (by decide +kernel) (by decide +kernel)
theorem cw_X6_lay : Cond.code yX6_lay cX6_lay 1 (some .int) ∈ lw_big := bg 410 (by decide +kernel) (by decide +kernel)
theorem ml_L_31 : Cond.methodLink RL 31 yX6_power ∈ lw_big := bg 411 (by decide +kernel) (by decide +kernel)
theorem im_X6_power : Cond.instanceMethod yX6_power ∈ lw_big := bg 412 (by decide +kernel) (by decide +kernel)
theorem se_X6_power : Cond.selects RX6 yX6_power yX6_power ∈ lw_big := bg 413 (by decide +kernel) (by decide +kernel)
theorem cw_X6_power : Cond.code yX6_power cX6_power 4 (some .int) ∈ lw_big := bg 414 (by decide +kernel) (by decide +kernel)
theorem ml_X6_87 : Cond.methodLink RX6 87 yX3_has ∈ lw_big := bg 415 (by decide +kernel) (by decide +kernel)
theorem im_X3_has : Cond.instanceMethod yX3_has ∈ lw_big := bg 416 (by decide +kernel) (by decide +kernel)
theorem se_X3_has : Cond.selects RX3 yX3_has yX3_has ∈ lw_big := bg 417 (by decide +kernel) (by decide +kernel)
theorem cw_X3_has : Cond.code yX3_has cX3_has 2 (some .boolean) ∈ lw_big := bg 418 (by decide +kernel) (by decide +kernel)
theorem ml_X6_91 : Cond.methodLink RX6 91 yX6_isPower ∈ lw_big := bg 419 (by decide +kernel) (by decide +kernel)
theorem st_X6_isPower : Cond.static yX6_isPower ∈ lw_big := bg 420 (by decide +kernel) (by decide +kernel)
theorem cw_X6_isPower : Cond.code yX6_isPower cX6_isPower 1 (some .boolean) ∈ lw_big := bg 421 (by decide +kernel) (by decide +kernel)
theorem ml_X6_97 : Cond.methodLink RX6 97 yX2_keep ∈ lw_big := bg 422 (by decide +kernel) (by decide +kernel)
theorem im_X2_keep : Cond.instanceMethod yX2_keep ∈ lw_big := bg 423 (by decide +kernel) (by decide +kernel)
theorem se_X2_keep : Cond.selects RX2 yX2_keep yX2_keep ∈ lw_big := bg 424 (by decide +kernel) (by decide +kernel)
theorem cw_X2_keep : Cond.code yX2_keep cX2_keep 4 none ∈ lw_big := bg 425 (by decide +kernel) (by decide +kernel)
theorem ml_X2_25 : Cond.methodLink RX2 25 yX2_forgetOldest ∈ lw_big := bg 426 (by decide +kernel) (by decide +kernel)
theorem im_X2_forgetOldest : Cond.instanceMethod yX2_forgetOldest ∈ lw_big := bg 428 (by decide +kernel) (by decide +kernel)
theorem cw_X2_forgetOldest : Cond.code yX2_forgetOldest cX2_forgetOldest 1 none ∈ lw_big := bg 429 (by decide +kernel) (by decide +kernel)
theorem ml_X2_28 : Cond.methodLink RX2 28 arraycopyName ∈ lw_big := bg 430 (by decide +kernel) (by decide +kernel)
theorem ml_X6_101 : Cond.methodLink RX6 101 yX3_setPower ∈ lw_big := bg 431 (by decide +kernel) (by decide +kernel)
theorem im_X3_setPower : Cond.instanceMethod yX3_setPower ∈ lw_big := bg 432 (by decide +kernel) (by decide +kernel)
theorem se_X3_setPower : Cond.selects RX3 yX3_setPower yX3_setPower ∈ lw_big := bg 433 (by decide +kernel) (by decide +kernel)
theorem cw_X3_setPower : Cond.code yX3_setPower cX3_setPower 3 none ∈ lw_big := bg 434 (by decide +kernel) (by decide +kernel)
theorem ml_X3_56 : Cond.methodLink RX3 56 yX3_has ∈ lw_big := bg 435 (by decide +kernel) (by decide +kernel)
theorem ml_L_36 : Cond.methodLink RL 36 yX6_leave ∈ lw_big := bg 436 (by decide +kernel) (by decide +kernel)
theorem im_X6_leave : Cond.instanceMethod yX6_leave ∈ lw_big := bg 437 (by decide +kernel) (by decide +kernel)
theorem se_X6_leave : Cond.selects RX6 yX6_leave yX6_leave ∈ lw_big := bg 438 (by decide +kernel) (by decide +kernel)
theorem cw_X6_leave : Cond.code yX6_leave cX6_leave 4 (some .int) ∈ lw_big := bg 439 (by decide +kernel) (by decide +kernel)
theorem ml_X6_108 : Cond.methodLink RX6 108 yX3_setLeft ∈ lw_big := bg 440 (by decide +kernel) (by decide +kernel)
theorem im_X3_setLeft : Cond.instanceMethod yX3_setLeft ∈ lw_big := bg 441 (by decide +kernel) (by decide +kernel)
theorem se_X3_setLeft : Cond.selects RX3 yX3_setLeft yX3_setLeft ∈ lw_big := bg 442 (by decide +kernel) (by decide +kernel)
theorem cw_X3_setLeft : Cond.code yX3_setLeft cX3_setLeft 3 none ∈ lw_big := bg 443 (by decide +kernel) (by decide +kernel)
theorem ml_X6_111 : Cond.methodLink RX6 111 yX3_howManyLeft ∈ lw_big := bg 444 (by decide +kernel) (by decide +kernel)
theorem im_X3_howManyLeft : Cond.instanceMethod yX3_howManyLeft ∈ lw_big := bg 445 (by decide +kernel) (by decide +kernel)
theorem se_X3_howManyLeft : Cond.selects RX3 yX3_howManyLeft yX3_howManyLeft ∈ lw_big := bg 446 (by decide +kernel) (by decide +kernel)
theorem cw_X3_howManyLeft : Cond.code yX3_howManyLeft cX3_howManyLeft 3 (some .int) ∈ lw_big := bg 447 (by decide +kernel) (by decide +kernel)
theorem ml_L_40 : Cond.methodLink RL 40 yX6_look ∈ lw_big := bg 448 (by decide +kernel) (by decide +kernel)
theorem im_X6_look : Cond.instanceMethod yX6_look ∈ lw_big := bg 449 (by decide +kernel) (by decide +kernel)
theorem se_X6_look : Cond.selects RX6 yX6_look yX6_look ∈ lw_big := bg 450 (by decide +kernel) (by decide +kernel)
theorem cw_X6_look : Cond.code yX6_look cX6_look 4 (some .int) ∈ lw_big := bg 451 (by decide +kernel) (by decide +kernel)
theorem ml_X6_115 : Cond.methodLink RX6 115 yX6_isLook ∈ lw_big := bg 452 (by decide +kernel) (by decide +kernel)
theorem ml_X6_122 : Cond.methodLink RX6 122 yX3_setLook ∈ lw_big := bg 453 (by decide +kernel) (by decide +kernel)
theorem im_X3_setLook : Cond.instanceMethod yX3_setLook ∈ lw_big := bg 454 (by decide +kernel) (by decide +kernel)
theorem se_X3_setLook : Cond.selects RX3 yX3_setLook yX3_setLook ∈ lw_big := bg 455 (by decide +kernel) (by decide +kernel)
theorem cw_X3_setLook : Cond.code yX3_setLook cX3_setLook 3 none ∈ lw_big := bg 456 (by decide +kernel) (by decide +kernel)
theorem ml_L_44 : Cond.methodLink RL 44 yX6_mode ∈ lw_big := bg 458 (by decide +kernel) (by decide +kernel)
theorem im_X6_mode : Cond.instanceMethod yX6_mode ∈ lw_big := bg 459 (by decide +kernel) (by decide +kernel)
theorem se_X6_mode : Cond.selects RX6 yX6_mode yX6_mode ∈ lw_big := bg 460 (by decide +kernel) (by decide +kernel)
theorem cw_X6_mode : Cond.code yX6_mode cX6_mode 3 (some .int) ∈ lw_big := bg 461 (by decide +kernel) (by decide +kernel)
theorem ml_X6_128 : Cond.methodLink RX6 128 yX3_setMode ∈ lw_big := bg 462 (by decide +kernel) (by decide +kernel)
theorem im_X3_setMode : Cond.instanceMethod yX3_setMode ∈ lw_big := bg 463 (by decide +kernel) (by decide +kernel)
theorem se_X3_setMode : Cond.selects RX3 yX3_setMode yX3_setMode ∈ lw_big := bg 464 (by decide +kernel) (by decide +kernel)
theorem cw_X3_setMode : Cond.code yX3_setMode cX3_setMode 2 none ∈ lw_big := bg 465 (by decide +kernel) (by decide +kernel)
theorem ml_L_48 : Cond.methodLink RL 48 yX6_slide ∈ lw_big := bg 466 (by decide +kernel) (by decide +kernel)
theorem im_X6_slide : Cond.instanceMethod yX6_slide ∈ lw_big := bg 467 (by decide +kernel) (by decide +kernel)
theorem se_X6_slide : Cond.selects RX6 yX6_slide yX6_slide ∈ lw_big := bg 468 (by decide +kernel) (by decide +kernel)
theorem cw_X6_slide : Cond.code yX6_slide cX6_slide 3 (some .int) ∈ lw_big := bg 469 (by decide +kernel) (by decide +kernel)
theorem ml_X6_131 : Cond.methodLink RX6 131 yX3_slideOn ∈ lw_big := bg 470 (by decide +kernel) (by decide +kernel)
theorem im_X3_slideOn : Cond.instanceMethod yX3_slideOn ∈ lw_big := bg 471 (by decide +kernel) (by decide +kernel)
theorem se_X3_slideOn : Cond.selects RX3 yX3_slideOn yX3_slideOn ∈ lw_big := bg 472 (by decide +kernel) (by decide +kernel)
theorem cw_X3_slideOn : Cond.code yX3_slideOn cX3_slideOn 3 none ∈ lw_big := bg 473 (by decide +kernel) (by decide +kernel)
theorem ml_L_52 : Cond.methodLink RL 52 yX6_undo ∈ lw_big := bg 474 (by decide +kernel) (by decide +kernel)
theorem im_X6_undo : Cond.instanceMethod yX6_undo ∈ lw_big := bg 475 (by decide +kernel) (by decide +kernel)
theorem se_X6_undo : Cond.selects RX6 yX6_undo yX6_undo ∈ lw_big := bg 476 (by decide +kernel) (by decide +kernel)
theorem cw_X6_undo : Cond.code yX6_undo cX6_undo 1 (some .int) ∈ lw_big := bg 477 (by decide +kernel) (by decide +kernel)
theorem ml_X6_143 : Cond.methodLink RX6 143 yX3_takeBack ∈ lw_big := bg 478 (by decide +kernel) (by decide +kernel)
theorem im_X3_takeBack : Cond.instanceMethod yX3_takeBack ∈ lw_big := bg 479 (by decide +kernel) (by decide +kernel)
theorem se_X3_takeBack : Cond.selects RX3 yX3_takeBack yX3_takeBack ∈ lw_big := bg 480 (by decide +kernel) (by decide +kernel)
theorem cw_X3_takeBack : Cond.code yX3_takeBack cX3_takeBack 4 none ∈ lw_big := bg 481 (by decide +kernel) (by decide +kernel)
theorem ml_X3_64 : Cond.methodLink RX3 64 yX3_setPower ∈ lw_big := bg 482 (by decide +kernel) (by decide +kernel)
theorem ml_X3_68 : Cond.methodLink RX3 68 yX3_setLeft ∈ lw_big := bg 483 (by decide +kernel) (by decide +kernel)
theorem ml_X3_71 : Cond.methodLink RX3 71 yX3_setLook ∈ lw_big := bg 484 (by decide +kernel) (by decide +kernel)
theorem ml_X3_74 : Cond.methodLink RX3 74 yX3_setMode ∈ lw_big := bg 485 (by decide +kernel) (by decide +kernel)
theorem ml_X3_78 : Cond.methodLink RX3 78 yX3_slideBack ∈ lw_big := bg 486 (by decide +kernel) (by decide +kernel)
theorem im_X3_slideBack : Cond.instanceMethod yX3_slideBack ∈ lw_big := bg 488 (by decide +kernel) (by decide +kernel)
theorem cw_X3_slideBack : Cond.code yX3_slideBack cX3_slideBack 4 none ∈ lw_big := bg 489 (by decide +kernel) (by decide +kernel)
theorem ml_L_56 : Cond.methodLink RL 56 yX6_cell ∈ lw_big := bg 490 (by decide +kernel) (by decide +kernel)
theorem im_X6_cell : Cond.instanceMethod yX6_cell ∈ lw_big := bg 491 (by decide +kernel) (by decide +kernel)
theorem se_X6_cell : Cond.selects RX6 yX6_cell yX6_cell ∈ lw_big := bg 492 (by decide +kernel) (by decide +kernel)
theorem cw_X6_cell : Cond.code yX6_cell cX6_cell 3 (some .int) ∈ lw_big := bg 493 (by decide +kernel) (by decide +kernel)
theorem ml_X6_146 : Cond.methodLink RX6 146 yX3_gather ∈ lw_big := bg 494 (by decide +kernel) (by decide +kernel)
theorem im_X3_gather : Cond.instanceMethod yX3_gather ∈ lw_big := bg 495 (by decide +kernel) (by decide +kernel)
theorem se_X3_gather : Cond.selects RX3 yX3_gather yX3_gather ∈ lw_big := bg 496 (by decide +kernel) (by decide +kernel)
theorem cw_X3_gather : Cond.code yX3_gather cX3_gather 6 (some .int) ∈ lw_big := bg 497 (by decide +kernel) (by decide +kernel)
theorem ml_X3_84 : Cond.methodLink RX3 84 yX3_gatherFrom ∈ lw_big := bg 498 (by decide +kernel) (by decide +kernel)
theorem im_X3_gatherFrom : Cond.instanceMethod yX3_gatherFrom ∈ lw_big := bg 500 (by decide +kernel) (by decide +kernel)
theorem cw_X3_gatherFrom : Cond.code yX3_gatherFrom cX3_gatherFrom 5 none ∈ lw_big := bg 501 (by decide +kernel) (by decide +kernel)
theorem ml_X3_88 : Cond.methodLink RX3 88 yJ9_max_7cf53 ∈ lw_big := bg 502 (by decide +kernel) (by decide +kernel)
theorem st_J9_max_7cf53 : Cond.static yJ9_max_7cf53 ∈ lw_big := bg 503 (by decide +kernel) (by decide +kernel)
theorem cw_J9_max_7cf53 : Cond.code yJ9_max_7cf53 cJ9_max_7cf53 2 (some .int) ∈ lw_big := bg 504 (by decide +kernel) (by decide +kernel)
theorem ml_X3_94 : Cond.methodLink RX3 94 yX3_sortIn ∈ lw_big := bg 505 (by decide +kernel) (by decide +kernel)
theorem im_X3_sortIn : Cond.instanceMethod yX3_sortIn ∈ lw_big := bg 507 (by decide +kernel) (by decide +kernel)
theorem cw_X3_sortIn : Cond.code yX3_sortIn cX3_sortIn 3 none ∈ lw_big := bg 508 (by decide +kernel) (by decide +kernel)
theorem ml_X6_150 : Cond.methodLink RX6 150 yX3_floorOf ∈ lw_big := bg 509 (by decide +kernel) (by decide +kernel)
theorem im_X3_floorOf : Cond.instanceMethod yX3_floorOf ∈ lw_big := bg 510 (by decide +kernel) (by decide +kernel)
theorem se_X3_floorOf : Cond.selects RX3 yX3_floorOf yX3_floorOf ∈ lw_big := bg 511 (by decide +kernel) (by decide +kernel)
theorem cw_X3_floorOf : Cond.code yX3_floorOf cX3_floorOf 5 (some .int) ∈ lw_big := bg 512 (by decide +kernel) (by decide +kernel)
theorem ml_X3_97 : Cond.methodLink RX3 97 yX3_rankOn ∈ lw_big := bg 513 (by decide +kernel) (by decide +kernel)
theorem im_X3_rankOn : Cond.instanceMethod yX3_rankOn ∈ lw_big := bg 515 (by decide +kernel) (by decide +kernel)
theorem cw_X3_rankOn : Cond.code yX3_rankOn cX3_rankOn 5 (some .int) ∈ lw_big := bg 516 (by decide +kernel) (by decide +kernel)
theorem ml_X3_104 : Cond.methodLink RX3 104 yX3_gather ∈ lw_big := bg 517 (by decide +kernel) (by decide +kernel)
theorem ml_X3_101 : Cond.methodLink RX3 101 yJ9_min_7cf53 ∈ lw_big := bg 518 (by decide +kernel) (by decide +kernel)
theorem st_J9_min_7cf53 : Cond.static yJ9_min_7cf53 ∈ lw_big := bg 519 (by decide +kernel) (by decide +kernel)
theorem cw_J9_min_7cf53 : Cond.code yJ9_min_7cf53 cJ9_min_7cf53 2 (some .int) ∈ lw_big := bg 520 (by decide +kernel) (by decide +kernel)
theorem ml_X6_154 : Cond.methodLink RX6 154 yX3_alarmsWithout ∈ lw_big := bg 521 (by decide +kernel) (by decide +kernel)
theorem im_X3_alarmsWithout : Cond.instanceMethod yX3_alarmsWithout ∈ lw_big := bg 522 (by decide +kernel) (by decide +kernel)
theorem se_X3_alarmsWithout : Cond.selects RX3 yX3_alarmsWithout yX3_alarmsWithout ∈ lw_big := bg 523 (by decide +kernel) (by decide +kernel)
theorem cw_X3_alarmsWithout : Cond.code yX3_alarmsWithout cX3_alarmsWithout 3 (some .boolean) ∈ lw_big := bg 524 (by decide +kernel) (by decide +kernel)
theorem ml_X3_107 : Cond.methodLink RX3 107 yX3_floorOf ∈ lw_big := bg 525 (by decide +kernel) (by decide +kernel)
theorem ml_X3_110 : Cond.methodLink RX3 110 yX3_outdoes ∈ lw_big := bg 526 (by decide +kernel) (by decide +kernel)
theorem im_X3_outdoes : Cond.instanceMethod yX3_outdoes ∈ lw_big := bg 527 (by decide +kernel) (by decide +kernel)
theorem se_X3_outdoes : Cond.selects RX3 yX3_outdoes yX3_outdoes ∈ lw_big := bg 528 (by decide +kernel) (by decide +kernel)
theorem cw_X3_outdoes : Cond.code yX3_outdoes cX3_outdoes 4 (some .boolean) ∈ lw_big := bg 529 (by decide +kernel) (by decide +kernel)
theorem ml_X6_157 : Cond.methodLink RX6 157 yX0_settle ∈ lw_big := bg 530 (by decide +kernel) (by decide +kernel)
theorem im_X0_settle : Cond.instanceMethod yX0_settle ∈ lw_big := bg 531 (by decide +kernel) (by decide +kernel)
theorem se_X0_settle : Cond.selects RX0 yX0_settle yX0_settle ∈ lw_big := bg 532 (by decide +kernel) (by decide +kernel)
theorem cw_X0_settle : Cond.code yX0_settle cX0_settle 3 none ∈ lw_big := bg 533 (by decide +kernel) (by decide +kernel)
theorem ml_X0_43 : Cond.methodLink RX0 43 yX3_floorOf ∈ lw_big := bg 534 (by decide +kernel) (by decide +kernel)
theorem ml_X0_50 : Cond.methodLink RX0 50 yX3_outdoes ∈ lw_big := bg 535 (by decide +kernel) (by decide +kernel)
theorem ml_X0_54 : Cond.methodLink RX0 54 yX0_addToBunch ∈ lw_big := bg 536 (by decide +kernel) (by decide +kernel)
theorem im_X0_addToBunch : Cond.instanceMethod yX0_addToBunch ∈ lw_big := bg 538 (by decide +kernel) (by decide +kernel)
theorem cw_X0_addToBunch : Cond.code yX0_addToBunch cX0_addToBunch 5 none ∈ lw_big := bg 539 (by decide +kernel) (by decide +kernel)
theorem ml_L_60 : Cond.methodLink RL 60 yX6_ranked ∈ lw_big := bg 540 (by decide +kernel) (by decide +kernel)
theorem im_X6_ranked : Cond.instanceMethod yX6_ranked ∈ lw_big := bg 541 (by decide +kernel) (by decide +kernel)
theorem se_X6_ranked : Cond.selects RX6 yX6_ranked yX6_ranked ∈ lw_big := bg 542 (by decide +kernel) (by decide +kernel)
theorem cw_X6_ranked : Cond.code yX6_ranked cX6_ranked 5 (some .int) ∈ lw_big := bg 543 (by decide +kernel) (by decide +kernel)
theorem ml_L_65 : Cond.methodLink RL 65 yX6_hides ∈ lw_big := bg 544 (by decide +kernel) (by decide +kernel)
theorem im_X6_hides : Cond.instanceMethod yX6_hides ∈ lw_big := bg 545 (by decide +kernel) (by decide +kernel)
theorem se_X6_hides : Cond.selects RX6 yX6_hides yX6_hides ∈ lw_big := bg 546 (by decide +kernel) (by decide +kernel)
theorem cw_X6_hides : Cond.code yX6_hides cX6_hides 5 (some .int) ∈ lw_big := bg 547 (by decide +kernel) (by decide +kernel)
theorem ml_X6_167 : Cond.methodLink RX6 167 yX3_isHidden ∈ lw_big := bg 548 (by decide +kernel) (by decide +kernel)
theorem im_X3_isHidden : Cond.instanceMethod yX3_isHidden ∈ lw_big := bg 549 (by decide +kernel) (by decide +kernel)
theorem se_X3_isHidden : Cond.selects RX3 yX3_isHidden yX3_isHidden ∈ lw_big := bg 550 (by decide +kernel) (by decide +kernel)
theorem cw_X3_isHidden : Cond.code yX3_isHidden cX3_isHidden 3 (some .boolean) ∈ lw_big := bg 551 (by decide +kernel) (by decide +kernel)
theorem ml_X3_114 : Cond.methodLink RX3 114 yX3_alarmsWithout ∈ lw_big := bg 552 (by decide +kernel) (by decide +kernel)
theorem ml_L_69 : Cond.methodLink RL 69 yX6_bunch ∈ lw_big := bg 553 (by decide +kernel) (by decide +kernel)
theorem im_X6_bunch : Cond.instanceMethod yX6_bunch ∈ lw_big := bg 554 (by decide +kernel) (by decide +kernel)
theorem se_X6_bunch : Cond.selects RX6 yX6_bunch yX6_bunch ∈ lw_big := bg 555 (by decide +kernel) (by decide +kernel)
theorem cw_X6_bunch : Cond.code yX6_bunch cX6_bunch 3 (some .int) ∈ lw_big := bg 556 (by decide +kernel) (by decide +kernel)
theorem ml_L_73 : Cond.methodLink RL 73 yX6_enough ∈ lw_big := bg 557 (by decide +kernel) (by decide +kernel)
theorem im_X6_enough : Cond.instanceMethod yX6_enough ∈ lw_big := bg 558 (by decide +kernel) (by decide +kernel)
theorem se_X6_enough : Cond.selects RX6 yX6_enough yX6_enough ∈ lw_big := bg 559 (by decide +kernel) (by decide +kernel)
theorem cw_X6_enough : Cond.code yX6_enough cX6_enough 3 (some .int) ∈ lw_big := bg 560 (by decide +kernel) (by decide +kernel)
theorem ml_X6_182 : Cond.methodLink RX6 182 yX0_howManyBy ∈ lw_big := bg 561 (by decide +kernel) (by decide +kernel)
theorem im_X0_howManyBy : Cond.instanceMethod yX0_howManyBy ∈ lw_big := bg 562 (by decide +kernel) (by decide +kernel)
theorem se_X0_howManyBy : Cond.selects RX0 yX0_howManyBy yX0_howManyBy ∈ lw_big := bg 563 (by decide +kernel) (by decide +kernel)
theorem cw_X0_howManyBy : Cond.code yX0_howManyBy cX0_howManyBy 5 (some .int) ∈ lw_big := bg 564 (by decide +kernel) (by decide +kernel)
theorem ml_L_77 : Cond.methodLink RL 77 yX6_noise ∈ lw_big := bg 565 (by decide +kernel) (by decide +kernel)
theorem im_X6_noise : Cond.instanceMethod yX6_noise ∈ lw_big := bg 566 (by decide +kernel) (by decide +kernel)
theorem se_X6_noise : Cond.selects RX6 yX6_noise yX6_noise ∈ lw_big := bg 567 (by decide +kernel) (by decide +kernel)
theorem cw_X6_noise : Cond.code yX6_noise cX6_noise 2 (some .int) ∈ lw_big := bg 568 (by decide +kernel) (by decide +kernel)
theorem ml_L_81 : Cond.methodLink RL 81 yX6_odds ∈ lw_big := bg 569 (by decide +kernel) (by decide +kernel)
theorem im_X6_odds : Cond.instanceMethod yX6_odds ∈ lw_big := bg 570 (by decide +kernel) (by decide +kernel)
theorem se_X6_odds : Cond.selects RX6 yX6_odds yX6_odds ∈ lw_big := bg 571 (by decide +kernel) (by decide +kernel)
theorem cw_X6_odds : Cond.code yX6_odds cX6_odds 8 (some .long) ∈ lw_big := bg 572 (by decide +kernel) (by decide +kernel)
theorem kl_X6_189 : Cond.constantLong RX6 189 (-1) ∈ lw_big := bg 573 (by decide +kernel) (by decide +kernel)
theorem ml_X6_191 : Cond.methodLink RX6 191 yX1_countFloors ∈ lw_big := bg 574 (by decide +kernel) (by decide +kernel)
theorem im_X1_countFloors : Cond.instanceMethod yX1_countFloors ∈ lw_big := bg 575 (by decide +kernel) (by decide +kernel)
theorem se_X1_countFloors : Cond.selects RX1 yX1_countFloors yX1_countFloors ∈ lw_big := bg 576 (by decide +kernel) (by decide +kernel)
theorem cw_X1_countFloors : Cond.code yX1_countFloors cX1_countFloors 9 none ∈ lw_big := bg 577 (by decide +kernel) (by decide +kernel)
theorem ml_X1_29 : Cond.methodLink RX1 29 yX1_waysOfFloorAtMost ∈ lw_big := bg 578 (by decide +kernel) (by decide +kernel)
theorem im_X1_waysOfFloorAtMost : Cond.instanceMethod yX1_waysOfFloorAtMost ∈ lw_big := bg 580 (by decide +kernel) (by decide +kernel)
theorem cw_X1_waysOfFloorAtMost : Cond.code yX1_waysOfFloorAtMost cX1_waysOfFloorAtMost 9 (some .long) ∈ lw_big := bg 581 (by decide +kernel) (by decide +kernel)
theorem ml_X1_33 : Cond.methodLink RX1 33 yX1_waysOfRankAtMost ∈ lw_big := bg 582 (by decide +kernel) (by decide +kernel)
theorem im_X1_waysOfRankAtMost : Cond.instanceMethod yX1_waysOfRankAtMost ∈ lw_big := bg 584 (by decide +kernel) (by decide +kernel)
theorem cw_X1_waysOfRankAtMost : Cond.code yX1_waysOfRankAtMost cX1_waysOfRankAtMost 8 (some .long) ∈ lw_big := bg 585 (by decide +kernel) (by decide +kernel)
theorem ml_X1_41 : Cond.methodLink RX1 41 yJ7_fill_d0a16 ∈ lw_big := bg 586 (by decide +kernel) (by decide +kernel)
theorem st_J7_fill_d0a16 : Cond.static yJ7_fill_d0a16 ∈ lw_big := bg 587 (by decide +kernel) (by decide +kernel)
theorem cw_J7_fill_d0a16 : Cond.code yJ7_fill_d0a16 cJ7_fill_d0a16 5 none ∈ lw_big := bg 588 (by decide +kernel) (by decide +kernel)
theorem ml_X1_47 : Cond.methodLink RX1 47 yJ9_min_7cf53 ∈ lw_big := bg 589 (by decide +kernel) (by decide +kernel)
theorem ml_X1_37 : Cond.methodLink RX1 37 yX1_raised ∈ lw_big := bg 590 (by decide +kernel) (by decide +kernel)
theorem im_X1_raised : Cond.instanceMethod yX1_raised ∈ lw_big := bg 592 (by decide +kernel) (by decide +kernel)
theorem cw_X1_raised : Cond.code yX1_raised cX1_raised 5 (some .long) ∈ lw_big := bg 593 (by decide +kernel) (by decide +kernel)
theorem ml_X6_195 : Cond.methodLink RX6 195 yX1_alarmWays ∈ lw_big := bg 594 (by decide +kernel) (by decide +kernel)
theorem im_X1_alarmWays : Cond.instanceMethod yX1_alarmWays ∈ lw_big := bg 595 (by decide +kernel) (by decide +kernel)
theorem se_X1_alarmWays : Cond.selects RX1 yX1_alarmWays yX1_alarmWays ∈ lw_big := bg 596 (by decide +kernel) (by decide +kernel)
theorem cw_X1_alarmWays : Cond.code yX1_alarmWays cX1_alarmWays 7 (some .long) ∈ lw_big := bg 597 (by decide +kernel) (by decide +kernel)
theorem ml_X6_199 : Cond.methodLink RX6 199 yX1_allWays ∈ lw_big := bg 598 (by decide +kernel) (by decide +kernel)
theorem im_X1_allWays : Cond.instanceMethod yX1_allWays ∈ lw_big := bg 599 (by decide +kernel) (by decide +kernel)
theorem se_X1_allWays : Cond.selects RX1 yX1_allWays yX1_allWays ∈ lw_big := bg 600 (by decide +kernel) (by decide +kernel)
theorem cw_X1_allWays : Cond.code yX1_allWays cX1_allWays 2 (some .long) ∈ lw_big := bg 601 (by decide +kernel) (by decide +kernel)
theorem ml_X6_203 : Cond.methodLink RX6 203 yX6_commonDivisor ∈ lw_big := bg 602 (by decide +kernel) (by decide +kernel)
theorem st_X6_commonDivisor : Cond.static yX6_commonDivisor ∈ lw_big := bg 603 (by decide +kernel) (by decide +kernel)
theorem cw_X6_commonDivisor : Cond.code yX6_commonDivisor cX6_commonDivisor 11 (some .long) ∈ lw_big := bg 604 (by decide +kernel) (by decide +kernel)
theorem ml_L_86 : Cond.methodLink RL 86 yX6_factor ∈ lw_big := bg 605 (by decide +kernel) (by decide +kernel)
theorem im_X6_factor : Cond.instanceMethod yX6_factor ∈ lw_big := bg 606 (by decide +kernel) (by decide +kernel)
theorem se_X6_factor : Cond.selects RX6 yX6_factor yX6_factor ∈ lw_big := bg 607 (by decide +kernel) (by decide +kernel)
theorem cw_X6_factor : Cond.code yX6_factor cX6_factor 6 (some .int) ∈ lw_big := bg 608 (by decide +kernel) (by decide +kernel)
theorem ki_X6_207 : Cond.constant RX6 207 (1000000) ∈ lw_big := bg 609 (by decide +kernel) (by decide +kernel)
theorem ml_X6_208 : Cond.methodLink RX6 208 yX6_productIsNoMore ∈ lw_big := bg 610 (by decide +kernel) (by decide +kernel)
theorem st_X6_productIsNoMore : Cond.static yX6_productIsNoMore ∈ lw_big := bg 611 (by decide +kernel) (by decide +kernel)
theorem cw_X6_productIsNoMore : Cond.code yX6_productIsNoMore cX6_productIsNoMore 19 (some .boolean) ∈ lw_big := bg 612 (by decide +kernel) (by decide +kernel)
theorem ml_L_90 : Cond.methodLink RL 90 yX6_drawn ∈ lw_big := bg 613 (by decide +kernel) (by decide +kernel)
theorem im_X6_drawn : Cond.instanceMethod yX6_drawn ∈ lw_big := bg 614 (by decide +kernel) (by decide +kernel)
theorem se_X6_drawn : Cond.selects RX6 yX6_drawn yX6_drawn ∈ lw_big := bg 615 (by decide +kernel) (by decide +kernel)
theorem cw_X6_drawn : Cond.code yX6_drawn cX6_drawn 2 (some .int) ∈ lw_big := bg 616 (by decide +kernel) (by decide +kernel)
theorem ml_X6_212 : Cond.methodLink RX6 212 yX0_letterOf ∈ lw_big := bg 617 (by decide +kernel) (by decide +kernel)
theorem im_X0_letterOf : Cond.instanceMethod yX0_letterOf ∈ lw_big := bg 618 (by decide +kernel) (by decide +kernel)
theorem se_X0_letterOf : Cond.selects RX0 yX0_letterOf yX0_letterOf ∈ lw_big := bg 619 (by decide +kernel) (by decide +kernel)
theorem cw_X0_letterOf : Cond.code yX0_letterOf cX0_letterOf 3 (some .int) ∈ lw_big := bg 620 (by decide +kernel) (by decide +kernel)
theorem ml_X6_216 : Cond.methodLink RX6 216 yX6_letterBehindCells ∈ lw_big := bg 621 (by decide +kernel) (by decide +kernel)
theorem im_X6_letterBehindCells : Cond.instanceMethod yX6_letterBehindCells ∈ lw_big := bg 623 (by decide +kernel) (by decide +kernel)
theorem cw_X6_letterBehindCells : Cond.code yX6_letterBehindCells cX6_letterBehindCells 4 (some .int) ∈ lw_big := bg 624 (by decide +kernel) (by decide +kernel)
theorem ml_X6_222 : Cond.methodLink RX6 222 yX6_figuresOf ∈ lw_big := bg 625 (by decide +kernel) (by decide +kernel)
theorem st_X6_figuresOf : Cond.static yX6_figuresOf ∈ lw_big := bg 626 (by decide +kernel) (by decide +kernel)
theorem cw_X6_figuresOf : Cond.code yX6_figuresOf cX6_figuresOf 1 (some .int) ∈ lw_big := bg 627 (by decide +kernel) (by decide +kernel)
theorem ml_X6_225 : Cond.methodLink RX6 225 yX6_figureOf ∈ lw_big := bg 628 (by decide +kernel) (by decide +kernel)
theorem st_X6_figureOf : Cond.static yX6_figureOf ∈ lw_big := bg 629 (by decide +kernel) (by decide +kernel)
theorem cw_X6_figureOf : Cond.code yX6_figureOf cX6_figureOf 2 (some .int) ∈ lw_big := bg 630 (by decide +kernel) (by decide +kernel)
theorem ml_L_94 : Cond.methodLink RL 94 yX6_count ∈ lw_big := bg 631 (by decide +kernel) (by decide +kernel)
theorem im_X6_count : Cond.instanceMethod yX6_count ∈ lw_big := bg 632 (by decide +kernel) (by decide +kernel)
theorem se_X6_count : Cond.selects RX6 yX6_count yX6_count ∈ lw_big := bg 633 (by decide +kernel) (by decide +kernel)
theorem cw_X6_count : Cond.code yX6_count cX6_count 2 (some .int) ∈ lw_big := bg 634 (by decide +kernel) (by decide +kernel)
theorem cl_L_10 : Cond.classLink RL 10 RX7 ∈ lw_big := bg 635 (by decide +kernel) (by decide +kernel)
theorem ia_X7 : Cond.instantiable RX7 15 ∈ lw_big := bg 636 (by decide +kernel) (by decide +kernel)
theorem ml_L_12 : Cond.methodLink RL 12 yX7_init ∈ lw_big := bg 637 (by decide +kernel) (by decide +kernel)
theorem im_X7_init : Cond.instanceMethod yX7_init ∈ lw_big := bg 638 (by decide +kernel) (by decide +kernel)
theorem cw_X7_init : Cond.code yX7_init cX7_init 1 none ∈ lw_big := bg 639 (by decide +kernel) (by decide +kernel)
theorem ml_X7_1 : Cond.methodLink RX7 1 objectInit ∈ lw_big := bg 640 (by decide +kernel) (by decide +kernel)
theorem ml_X7_31 : Cond.methodLink RX7 31 yX7_clears ∈ lw_big := bg 641 (by decide +kernel) (by decide +kernel)
theorem im_X7_clears : Cond.instanceMethod yX7_clears ∈ lw_big := bg 643 (by decide +kernel) (by decide +kernel)
theorem cw_X7_clears : Cond.code yX7_clears cX7_clears 2 none ∈ lw_big := bg 644 (by decide +kernel) (by decide +kernel)
theorem ml_X7_34 : Cond.methodLink RX7 34 yX7_adds ∈ lw_big := bg 645 (by decide +kernel) (by decide +kernel)
theorem im_X7_adds : Cond.instanceMethod yX7_adds ∈ lw_big := bg 647 (by decide +kernel) (by decide +kernel)
theorem cw_X7_adds : Cond.code yX7_adds cX7_adds 5 none ∈ lw_big := bg 648 (by decide +kernel) (by decide +kernel)
theorem ml_X7_38 : Cond.methodLink RX7 38 yX7_takes ∈ lw_big := bg 649 (by decide +kernel) (by decide +kernel)
theorem im_X7_takes : Cond.instanceMethod yX7_takes ∈ lw_big := bg 651 (by decide +kernel) (by decide +kernel)
theorem cw_X7_takes : Cond.code yX7_takes cX7_takes 2 none ∈ lw_big := bg 652 (by decide +kernel) (by decide +kernel)
theorem fl_X7_57 : Cond.fieldLink RX7 57 "RankedEchoesModel" "length" "I" ∈ lw_big := bg 653 (by decide +kernel) (by decide +kernel)
theorem fl_X7_7 : Cond.fieldLink RX7 7 "RankedEchoesModel" "text" "[I" ∈ lw_big := bg 654 (by decide +kernel) (by decide +kernel)
theorem fl_X7_48 : Cond.fieldLink RX7 48 "RankedEchoesModel" "cells" "I" ∈ lw_big := bg 655 (by decide +kernel) (by decide +kernel)
theorem fl_X7_51 : Cond.fieldLink RX7 51 "RankedEchoesModel" "noises" "I" ∈ lw_big := bg 656 (by decide +kernel) (by decide +kernel)
theorem fl_X7_13 : Cond.fieldLink RX7 13 "RankedEchoesModel" "noise" "[I" ∈ lw_big := bg 657 (by decide +kernel) (by decide +kernel)
theorem fl_X7_16 : Cond.fieldLink RX7 16 "RankedEchoesModel" "now" "[I" ∈ lw_big := bg 658 (by decide +kernel) (by decide +kernel)
theorem fl_X7_19 : Cond.fieldLink RX7 19 "RankedEchoesModel" "was" "[I" ∈ lw_big := bg 659 (by decide +kernel) (by decide +kernel)
theorem fl_X7_54 : Cond.fieldLink RX7 54 "RankedEchoesModel" "changes" "I" ∈ lw_big := bg 660 (by decide +kernel) (by decide +kernel)
theorem fl_X7_41 : Cond.fieldLink RX7 41 "RankedEchoesModel" "readCells" "I" ∈ lw_big := bg 661 (by decide +kernel) (by decide +kernel)
theorem fl_X7_45 : Cond.fieldLink RX7 45 "RankedEchoesModel" "readNoises" "I" ∈ lw_big := bg 662 (by decide +kernel) (by decide +kernel)
theorem fl_X7_22 : Cond.fieldLink RX7 22 "RankedEchoesModel" "read" "[I" ∈ lw_big := bg 663 (by decide +kernel) (by decide +kernel)
theorem fl_X7_25 : Cond.fieldLink RX7 25 "RankedEchoesModel" "readNoise" "[I" ∈ lw_big := bg 664 (by decide +kernel) (by decide +kernel)
theorem fl_X7_60 : Cond.fieldLink RX7 60 "RankedEchoesModel" "ends" "I" ∈ lw_big := bg 665 (by decide +kernel) (by decide +kernel)
theorem fl_X7_28 : Cond.fieldLink RX7 28 "RankedEchoesModel" "ranks" "[I" ∈ lw_big := bg 666 (by decide +kernel) (by decide +kernel)
theorem fl_X7_117 : Cond.fieldLink RX7 117 "RankedEchoesModel" "ranked" "I" ∈ lw_big := bg 667 (by decide +kernel) (by decide +kernel)
theorem ml_L_17 : Cond.methodLink RL 17 yX7_write ∈ lw_big := bg 699 (by decide +kernel) (by decide +kernel)
theorem im_X7_write : Cond.instanceMethod yX7_write ∈ lw_big := bg 700 (by decide +kernel) (by decide +kernel)
theorem se_X7_write : Cond.selects RX7 yX7_write yX7_write ∈ lw_big := bg 701 (by decide +kernel) (by decide +kernel)
theorem cw_X7_write : Cond.code yX7_write cX7_write 2 (some .int) ∈ lw_big := bg 702 (by decide +kernel) (by decide +kernel)
theorem ml_L_22 : Cond.methodLink RL 22 yX7_wipe ∈ lw_big := bg 703 (by decide +kernel) (by decide +kernel)
theorem im_X7_wipe : Cond.instanceMethod yX7_wipe ∈ lw_big := bg 704 (by decide +kernel) (by decide +kernel)
theorem se_X7_wipe : Cond.selects RX7 yX7_wipe yX7_wipe ∈ lw_big := bg 705 (by decide +kernel) (by decide +kernel)
theorem cw_X7_wipe : Cond.code yX7_wipe cX7_wipe 2 (some .int) ∈ lw_big := bg 706 (by decide +kernel) (by decide +kernel)
theorem ml_L_26 : Cond.methodLink RL 26 yX7_fault ∈ lw_big := bg 707 (by decide +kernel) (by decide +kernel)
theorem im_X7_fault : Cond.instanceMethod yX7_fault ∈ lw_big := bg 708 (by decide +kernel) (by decide +kernel)
theorem se_X7_fault : Cond.selects RX7 yX7_fault yX7_fault ∈ lw_big := bg 709 (by decide +kernel) (by decide +kernel)
theorem cw_X7_fault : Cond.code yX7_fault cX7_fault 1 (some .int) ∈ lw_big := bg 710 (by decide +kernel) (by decide +kernel)
theorem ml_X7_100 : Cond.methodLink RX7 100 yX7_reads ∈ lw_big := bg 711 (by decide +kernel) (by decide +kernel)
theorem im_X7_reads : Cond.instanceMethod yX7_reads ∈ lw_big := bg 713 (by decide +kernel) (by decide +kernel)
theorem cw_X7_reads : Cond.code yX7_reads cX7_reads 2 (some .int) ∈ lw_big := bg 714 (by decide +kernel) (by decide +kernel)
theorem ml_X7_97 : Cond.methodLink RX7 97 yX7_readsItem ∈ lw_big := bg 715 (by decide +kernel) (by decide +kernel)
theorem im_X7_readsItem : Cond.instanceMethod yX7_readsItem ∈ lw_big := bg 717 (by decide +kernel) (by decide +kernel)
theorem cw_X7_readsItem : Cond.code yX7_readsItem cX7_readsItem 2 (some .boolean) ∈ lw_big := bg 718 (by decide +kernel) (by decide +kernel)
theorem ml_X7_63 : Cond.methodLink RX7 63 yX7_letterAt ∈ lw_big := bg 719 (by decide +kernel) (by decide +kernel)
theorem im_X7_letterAt : Cond.instanceMethod yX7_letterAt ∈ lw_big := bg 721 (by decide +kernel) (by decide +kernel)
theorem cw_X7_letterAt : Cond.code yX7_letterAt cX7_letterAt 2 (some .int) ∈ lw_big := bg 722 (by decide +kernel) (by decide +kernel)
theorem ml_X7_80 : Cond.methodLink RX7 80 yX7_isWord ∈ lw_big := bg 723 (by decide +kernel) (by decide +kernel)
theorem im_X7_isWord : Cond.instanceMethod yX7_isWord ∈ lw_big := bg 725 (by decide +kernel) (by decide +kernel)
theorem cw_X7_isWord : Cond.code yX7_isWord cX7_isWord 6 (some .boolean) ∈ lw_big := bg 726 (by decide +kernel) (by decide +kernel)
theorem ml_X7_84 : Cond.methodLink RX7 84 yX7_readsCells ∈ lw_big := bg 727 (by decide +kernel) (by decide +kernel)
theorem im_X7_readsCells : Cond.instanceMethod yX7_readsCells ∈ lw_big := bg 729 (by decide +kernel) (by decide +kernel)
theorem cw_X7_readsCells : Cond.code yX7_readsCells cX7_readsCells 5 (some .boolean) ∈ lw_big := bg 730 (by decide +kernel) (by decide +kernel)
theorem ml_X7_67 : Cond.methodLink RX7 67 yX7_number ∈ lw_big := bg 731 (by decide +kernel) (by decide +kernel)
theorem im_X7_number : Cond.instanceMethod yX7_number ∈ lw_big := bg 733 (by decide +kernel) (by decide +kernel)
theorem cw_X7_number : Cond.code yX7_number cX7_number 3 (some .int) ∈ lw_big := bg 734 (by decide +kernel) (by decide +kernel)
theorem ml_X7_88 : Cond.methodLink RX7 88 yX7_readsLook ∈ lw_big := bg 735 (by decide +kernel) (by decide +kernel)
theorem im_X7_readsLook : Cond.instanceMethod yX7_readsLook ∈ lw_big := bg 737 (by decide +kernel) (by decide +kernel)
theorem cw_X7_readsLook : Cond.code yX7_readsLook cX7_readsLook 5 (some .boolean) ∈ lw_big := bg 738 (by decide +kernel) (by decide +kernel)
theorem ml_X7_70 : Cond.methodLink RX7 70 yX7_least ∈ lw_big := bg 739 (by decide +kernel) (by decide +kernel)
theorem st_X7_least : Cond.static yX7_least ∈ lw_big := bg 740 (by decide +kernel) (by decide +kernel)
theorem cw_X7_least : Cond.code yX7_least cX7_least 1 (some .int) ∈ lw_big := bg 741 (by decide +kernel) (by decide +kernel)
theorem ml_X7_73 : Cond.methodLink RX7 73 yX7_most ∈ lw_big := bg 742 (by decide +kernel) (by decide +kernel)
theorem st_X7_most : Cond.static yX7_most ∈ lw_big := bg 743 (by decide +kernel) (by decide +kernel)
theorem cw_X7_most : Cond.code yX7_most cX7_most 1 (some .int) ∈ lw_big := bg 744 (by decide +kernel) (by decide +kernel)
theorem ml_X7_76 : Cond.methodLink RX7 76 yX7_isIn ∈ lw_big := bg 745 (by decide +kernel) (by decide +kernel)
theorem st_X7_isIn : Cond.static yX7_isIn ∈ lw_big := bg 746 (by decide +kernel) (by decide +kernel)
theorem cw_X7_isIn : Cond.code yX7_isIn cX7_isIn 3 (some .boolean) ∈ lw_big := bg 747 (by decide +kernel) (by decide +kernel)
theorem ml_X7_91 : Cond.methodLink RX7 91 yX7_readsMode ∈ lw_big := bg 748 (by decide +kernel) (by decide +kernel)
theorem im_X7_readsMode : Cond.instanceMethod yX7_readsMode ∈ lw_big := bg 750 (by decide +kernel) (by decide +kernel)
theorem cw_X7_readsMode : Cond.code yX7_readsMode cX7_readsMode 5 (some .boolean) ∈ lw_big := bg 751 (by decide +kernel) (by decide +kernel)
theorem ml_X7_94 : Cond.methodLink RX7 94 yX7_readsNoise ∈ lw_big := bg 752 (by decide +kernel) (by decide +kernel)
theorem im_X7_readsNoise : Cond.instanceMethod yX7_readsNoise ∈ lw_big := bg 754 (by decide +kernel) (by decide +kernel)
theorem cw_X7_readsNoise : Cond.code yX7_readsNoise cX7_readsNoise 7 (some .boolean) ∈ lw_big := bg 755 (by decide +kernel) (by decide +kernel)
theorem ml_L_30 : Cond.methodLink RL 30 yX7_lay ∈ lw_big := bg 756 (by decide +kernel) (by decide +kernel)
theorem im_X7_lay : Cond.instanceMethod yX7_lay ∈ lw_big := bg 757 (by decide +kernel) (by decide +kernel)
theorem se_X7_lay : Cond.selects RX7 yX7_lay yX7_lay ∈ lw_big := bg 758 (by decide +kernel) (by decide +kernel)
theorem cw_X7_lay : Cond.code yX7_lay cX7_lay 1 (some .int) ∈ lw_big := bg 759 (by decide +kernel) (by decide +kernel)
theorem ml_L_35 : Cond.methodLink RL 35 yX7_power ∈ lw_big := bg 760 (by decide +kernel) (by decide +kernel)
theorem im_X7_power : Cond.instanceMethod yX7_power ∈ lw_big := bg 761 (by decide +kernel) (by decide +kernel)
theorem se_X7_power : Cond.selects RX7 yX7_power yX7_power ∈ lw_big := bg 762 (by decide +kernel) (by decide +kernel)
theorem cw_X7_power : Cond.code yX7_power cX7_power 3 (some .int) ∈ lw_big := bg 763 (by decide +kernel) (by decide +kernel)
theorem ml_X7_107 : Cond.methodLink RX7 107 yX7_isCell ∈ lw_big := bg 764 (by decide +kernel) (by decide +kernel)
theorem im_X7_isCell : Cond.instanceMethod yX7_isCell ∈ lw_big := bg 766 (by decide +kernel) (by decide +kernel)
theorem cw_X7_isCell : Cond.code yX7_isCell cX7_isCell 2 (some .boolean) ∈ lw_big := bg 767 (by decide +kernel) (by decide +kernel)
theorem ml_X7_110 : Cond.methodLink RX7 110 yX7_becomes ∈ lw_big := bg 768 (by decide +kernel) (by decide +kernel)
theorem im_X7_becomes : Cond.instanceMethod yX7_becomes ∈ lw_big := bg 770 (by decide +kernel) (by decide +kernel)
theorem cw_X7_becomes : Cond.code yX7_becomes cX7_becomes 4 (some .int) ∈ lw_big := bg 771 (by decide +kernel) (by decide +kernel)
theorem ml_X7_104 : Cond.methodLink RX7 104 yX7_keeps ∈ lw_big := bg 772 (by decide +kernel) (by decide +kernel)
theorem im_X7_keeps : Cond.instanceMethod yX7_keeps ∈ lw_big := bg 774 (by decide +kernel) (by decide +kernel)
theorem cw_X7_keeps : Cond.code yX7_keeps cX7_keeps 2 none ∈ lw_big := bg 775 (by decide +kernel) (by decide +kernel)
theorem ml_L_39 : Cond.methodLink RL 39 yX7_leave ∈ lw_big := bg 776 (by decide +kernel) (by decide +kernel)
theorem im_X7_leave : Cond.instanceMethod yX7_leave ∈ lw_big := bg 777 (by decide +kernel) (by decide +kernel)
theorem se_X7_leave : Cond.selects RX7 yX7_leave yX7_leave ∈ lw_big := bg 778 (by decide +kernel) (by decide +kernel)
theorem cw_X7_leave : Cond.code yX7_leave cX7_leave 3 (some .int) ∈ lw_big := bg 779 (by decide +kernel) (by decide +kernel)
theorem ml_X7_114 : Cond.methodLink RX7 114 yX7_leftOut ∈ lw_big := bg 780 (by decide +kernel) (by decide +kernel)
theorem im_X7_leftOut : Cond.instanceMethod yX7_leftOut ∈ lw_big := bg 782 (by decide +kernel) (by decide +kernel)
theorem cw_X7_leftOut : Cond.code yX7_leftOut cX7_leftOut 3 (some .int) ∈ lw_big := bg 783 (by decide +kernel) (by decide +kernel)
theorem ml_L_43 : Cond.methodLink RL 43 yX7_look ∈ lw_big := bg 784 (by decide +kernel) (by decide +kernel)
theorem im_X7_look : Cond.instanceMethod yX7_look ∈ lw_big := bg 785 (by decide +kernel) (by decide +kernel)
theorem se_X7_look : Cond.selects RX7 yX7_look yX7_look ∈ lw_big := bg 786 (by decide +kernel) (by decide +kernel)
theorem cw_X7_look : Cond.code yX7_look cX7_look 3 (some .int) ∈ lw_big := bg 787 (by decide +kernel) (by decide +kernel)
theorem ml_L_47 : Cond.methodLink RL 47 yX7_mode ∈ lw_big := bg 788 (by decide +kernel) (by decide +kernel)
theorem im_X7_mode : Cond.instanceMethod yX7_mode ∈ lw_big := bg 789 (by decide +kernel) (by decide +kernel)
theorem se_X7_mode : Cond.selects RX7 yX7_mode yX7_mode ∈ lw_big := bg 790 (by decide +kernel) (by decide +kernel)
theorem cw_X7_mode : Cond.code yX7_mode cX7_mode 2 (some .int) ∈ lw_big := bg 791 (by decide +kernel) (by decide +kernel)
theorem ml_L_51 : Cond.methodLink RL 51 yX7_slide ∈ lw_big := bg 792 (by decide +kernel) (by decide +kernel)
theorem im_X7_slide : Cond.instanceMethod yX7_slide ∈ lw_big := bg 793 (by decide +kernel) (by decide +kernel)
theorem se_X7_slide : Cond.selects RX7 yX7_slide yX7_slide ∈ lw_big := bg 794 (by decide +kernel) (by decide +kernel)
theorem cw_X7_slide : Cond.code yX7_slide cX7_slide 4 (some .int) ∈ lw_big := bg 795 (by decide +kernel) (by decide +kernel)
theorem ml_L_55 : Cond.methodLink RL 55 yX7_undo ∈ lw_big := bg 796 (by decide +kernel) (by decide +kernel)
theorem im_X7_undo : Cond.instanceMethod yX7_undo ∈ lw_big := bg 797 (by decide +kernel) (by decide +kernel)
theorem se_X7_undo : Cond.selects RX7 yX7_undo yX7_undo ∈ lw_big := bg 798 (by decide +kernel) (by decide +kernel)
theorem cw_X7_undo : Cond.code yX7_undo cX7_undo 2 (some .int) ∈ lw_big := bg 799 (by decide +kernel) (by decide +kernel)
theorem ml_L_59 : Cond.methodLink RL 59 yX7_cell ∈ lw_big := bg 800 (by decide +kernel) (by decide +kernel)
theorem im_X7_cell : Cond.instanceMethod yX7_cell ∈ lw_big := bg 801 (by decide +kernel) (by decide +kernel)
theorem se_X7_cell : Cond.selects RX7 yX7_cell yX7_cell ∈ lw_big := bg 802 (by decide +kernel) (by decide +kernel)
theorem cw_X7_cell : Cond.code yX7_cell cX7_cell 3 (some .int) ∈ lw_big := bg 803 (by decide +kernel) (by decide +kernel)
theorem ml_X7_124 : Cond.methodLink RX7 124 yX7_rank ∈ lw_big := bg 804 (by decide +kernel) (by decide +kernel)
theorem im_X7_rank : Cond.instanceMethod yX7_rank ∈ lw_big := bg 806 (by decide +kernel) (by decide +kernel)
theorem cw_X7_rank : Cond.code yX7_rank cX7_rank 5 (some .int) ∈ lw_big := bg 807 (by decide +kernel) (by decide +kernel)
theorem ml_X7_120 : Cond.methodLink RX7 120 yX7_meets ∈ lw_big := bg 808 (by decide +kernel) (by decide +kernel)
theorem im_X7_meets : Cond.instanceMethod yX7_meets ∈ lw_big := bg 810 (by decide +kernel) (by decide +kernel)
theorem cw_X7_meets : Cond.code yX7_meets cX7_meets 5 none ∈ lw_big := bg 811 (by decide +kernel) (by decide +kernel)
theorem ml_X7_130 : Cond.methodLink RX7 130 yX7_floorOf ∈ lw_big := bg 812 (by decide +kernel) (by decide +kernel)
theorem im_X7_floorOf : Cond.instanceMethod yX7_floorOf ∈ lw_big := bg 814 (by decide +kernel) (by decide +kernel)
theorem cw_X7_floorOf : Cond.code yX7_floorOf cX7_floorOf 4 (some .int) ∈ lw_big := bg 815 (by decide +kernel) (by decide +kernel)
theorem ml_X7_127 : Cond.methodLink RX7 127 yX7_byRank ∈ lw_big := bg 816 (by decide +kernel) (by decide +kernel)
theorem im_X7_byRank : Cond.instanceMethod yX7_byRank ∈ lw_big := bg 818 (by decide +kernel) (by decide +kernel)
theorem cw_X7_byRank : Cond.code yX7_byRank cX7_byRank 4 (some .int) ∈ lw_big := bg 819 (by decide +kernel) (by decide +kernel)
theorem ml_X7_133 : Cond.methodLink RX7 133 yX7_isAlarm ∈ lw_big := bg 820 (by decide +kernel) (by decide +kernel)
theorem im_X7_isAlarm : Cond.instanceMethod yX7_isAlarm ∈ lw_big := bg 822 (by decide +kernel) (by decide +kernel)
theorem cw_X7_isAlarm : Cond.code yX7_isAlarm cX7_isAlarm 3 (some .boolean) ∈ lw_big := bg 823 (by decide +kernel) (by decide +kernel)
theorem ml_X7_136 : Cond.methodLink RX7 136 yX7_bunchesTo ∈ lw_big := bg 824 (by decide +kernel) (by decide +kernel)
theorem im_X7_bunchesTo : Cond.instanceMethod yX7_bunchesTo ∈ lw_big := bg 826 (by decide +kernel) (by decide +kernel)
theorem cw_X7_bunchesTo : Cond.code yX7_bunchesTo cX7_bunchesTo 4 (some .int) ∈ lw_big := bg 827 (by decide +kernel) (by decide +kernel)
theorem ml_L_64 : Cond.methodLink RL 64 yX7_ranked ∈ lw_big := bg 828 (by decide +kernel) (by decide +kernel)
theorem im_X7_ranked : Cond.instanceMethod yX7_ranked ∈ lw_big := bg 829 (by decide +kernel) (by decide +kernel)
theorem se_X7_ranked : Cond.selects RX7 yX7_ranked yX7_ranked ∈ lw_big := bg 830 (by decide +kernel) (by decide +kernel)
theorem cw_X7_ranked : Cond.code yX7_ranked cX7_ranked 4 (some .int) ∈ lw_big := bg 831 (by decide +kernel) (by decide +kernel)
theorem ml_L_68 : Cond.methodLink RL 68 yX7_hides ∈ lw_big := bg 832 (by decide +kernel) (by decide +kernel)
theorem im_X7_hides : Cond.instanceMethod yX7_hides ∈ lw_big := bg 833 (by decide +kernel) (by decide +kernel)
theorem se_X7_hides : Cond.selects RX7 yX7_hides yX7_hides ∈ lw_big := bg 834 (by decide +kernel) (by decide +kernel)
theorem cw_X7_hides : Cond.code yX7_hides cX7_hides 5 (some .int) ∈ lw_big := bg 835 (by decide +kernel) (by decide +kernel)
theorem ml_X7_139 : Cond.methodLink RX7 139 yX7_hides1 ∈ lw_big := bg 836 (by decide +kernel) (by decide +kernel)
theorem im_X7_hides1 : Cond.instanceMethod yX7_hides1 ∈ lw_big := bg 838 (by decide +kernel) (by decide +kernel)
theorem cw_X7_hides1 : Cond.code yX7_hides1 cX7_hides1 4 (some .boolean) ∈ lw_big := bg 839 (by decide +kernel) (by decide +kernel)
theorem ml_L_72 : Cond.methodLink RL 72 yX7_bunch ∈ lw_big := bg 840 (by decide +kernel) (by decide +kernel)
theorem im_X7_bunch : Cond.instanceMethod yX7_bunch ∈ lw_big := bg 841 (by decide +kernel) (by decide +kernel)
theorem se_X7_bunch : Cond.selects RX7 yX7_bunch yX7_bunch ∈ lw_big := bg 842 (by decide +kernel) (by decide +kernel)
theorem cw_X7_bunch : Cond.code yX7_bunch cX7_bunch 5 (some .int) ∈ lw_big := bg 843 (by decide +kernel) (by decide +kernel)
theorem ml_X7_146 : Cond.methodLink RX7 146 yX7_bunches ∈ lw_big := bg 844 (by decide +kernel) (by decide +kernel)
theorem im_X7_bunches : Cond.instanceMethod yX7_bunches ∈ lw_big := bg 846 (by decide +kernel) (by decide +kernel)
theorem cw_X7_bunches : Cond.code yX7_bunches cX7_bunches 3 (some .int) ∈ lw_big := bg 847 (by decide +kernel) (by decide +kernel)
theorem ml_X7_149 : Cond.methodLink RX7 149 yX7_firstOf ∈ lw_big := bg 848 (by decide +kernel) (by decide +kernel)
theorem im_X7_firstOf : Cond.instanceMethod yX7_firstOf ∈ lw_big := bg 850 (by decide +kernel) (by decide +kernel)
theorem cw_X7_firstOf : Cond.code yX7_firstOf cX7_firstOf 4 (some .int) ∈ lw_big := bg 851 (by decide +kernel) (by decide +kernel)
theorem ml_X7_143 : Cond.methodLink RX7 143 yX7_lastFrom ∈ lw_big := bg 852 (by decide +kernel) (by decide +kernel)
theorem im_X7_lastFrom : Cond.instanceMethod yX7_lastFrom ∈ lw_big := bg 854 (by decide +kernel) (by decide +kernel)
theorem cw_X7_lastFrom : Cond.code yX7_lastFrom cX7_lastFrom 3 (some .int) ∈ lw_big := bg 855 (by decide +kernel) (by decide +kernel)
theorem ml_X7_152 : Cond.methodLink RX7 152 yX7_peak ∈ lw_big := bg 856 (by decide +kernel) (by decide +kernel)
theorem im_X7_peak : Cond.instanceMethod yX7_peak ∈ lw_big := bg 858 (by decide +kernel) (by decide +kernel)
theorem cw_X7_peak : Cond.code yX7_peak cX7_peak 5 (some .int) ∈ lw_big := bg 859 (by decide +kernel) (by decide +kernel)
theorem ml_L_76 : Cond.methodLink RL 76 yX7_enough ∈ lw_big := bg 860 (by decide +kernel) (by decide +kernel)
theorem im_X7_enough : Cond.instanceMethod yX7_enough ∈ lw_big := bg 861 (by decide +kernel) (by decide +kernel)
theorem se_X7_enough : Cond.selects RX7 yX7_enough yX7_enough ∈ lw_big := bg 862 (by decide +kernel) (by decide +kernel)
theorem cw_X7_enough : Cond.code yX7_enough cX7_enough 5 (some .int) ∈ lw_big := bg 863 (by decide +kernel) (by decide +kernel)
theorem ml_X7_155 : Cond.methodLink RX7 155 yX7_alarms ∈ lw_big := bg 864 (by decide +kernel) (by decide +kernel)
theorem im_X7_alarms : Cond.instanceMethod yX7_alarms ∈ lw_big := bg 866 (by decide +kernel) (by decide +kernel)
theorem cw_X7_alarms : Cond.code yX7_alarms cX7_alarms 3 (some .int) ∈ lw_big := bg 867 (by decide +kernel) (by decide +kernel)
theorem ml_L_80 : Cond.methodLink RL 80 yX7_noise ∈ lw_big := bg 868 (by decide +kernel) (by decide +kernel)
theorem im_X7_noise : Cond.instanceMethod yX7_noise ∈ lw_big := bg 869 (by decide +kernel) (by decide +kernel)
theorem se_X7_noise : Cond.selects RX7 yX7_noise yX7_noise ∈ lw_big := bg 870 (by decide +kernel) (by decide +kernel)
theorem cw_X7_noise : Cond.code yX7_noise cX7_noise 2 (some .int) ∈ lw_big := bg 871 (by decide +kernel) (by decide +kernel)
theorem ml_L_85 : Cond.methodLink RL 85 yX7_odds ∈ lw_big := bg 872 (by decide +kernel) (by decide +kernel)
theorem im_X7_odds : Cond.instanceMethod yX7_odds ∈ lw_big := bg 873 (by decide +kernel) (by decide +kernel)
theorem se_X7_odds : Cond.selects RX7 yX7_odds yX7_odds ∈ lw_big := bg 874 (by decide +kernel) (by decide +kernel)
theorem cw_X7_odds : Cond.code yX7_odds cX7_odds 8 (some .long) ∈ lw_big := bg 875 (by decide +kernel) (by decide +kernel)
theorem kl_X7_177 : Cond.constantLong RX7 177 (-1) ∈ lw_big := bg 876 (by decide +kernel) (by decide +kernel)
theorem ml_X7_179 : Cond.methodLink RX7 179 yX7_falses ∈ lw_big := bg 877 (by decide +kernel) (by decide +kernel)
theorem im_X7_falses : Cond.instanceMethod yX7_falses ∈ lw_big := bg 879 (by decide +kernel) (by decide +kernel)
theorem cw_X7_falses : Cond.code yX7_falses cX7_falses 14 (some .long) ∈ lw_big := bg 880 (by decide +kernel) (by decide +kernel)
theorem ml_X7_173 : Cond.methodLink RX7 173 yX7_floors ∈ lw_big := bg 881 (by decide +kernel) (by decide +kernel)
theorem im_X7_floors : Cond.instanceMethod yX7_floors ∈ lw_big := bg 883 (by decide +kernel) (by decide +kernel)
theorem cw_X7_floors : Cond.code yX7_floors cX7_floors 8 (some .long) ∈ lw_big := bg 884 (by decide +kernel) (by decide +kernel)
theorem ml_X7_169 : Cond.methodLink RX7 169 yX7_within ∈ lw_big := bg 885 (by decide +kernel) (by decide +kernel)
theorem im_X7_within : Cond.instanceMethod yX7_within ∈ lw_big := bg 887 (by decide +kernel) (by decide +kernel)
theorem cw_X7_within : Cond.code yX7_within cX7_within 10 (some .long) ∈ lw_big := bg 888 (by decide +kernel) (by decide +kernel)
theorem ml_X7_158 : Cond.methodLink RX7 158 yX7_weight ∈ lw_big := bg 889 (by decide +kernel) (by decide +kernel)
theorem im_X7_weight : Cond.instanceMethod yX7_weight ∈ lw_big := bg 891 (by decide +kernel) (by decide +kernel)
theorem cw_X7_weight : Cond.code yX7_weight cX7_weight 3 (some .int) ∈ lw_big := bg 892 (by decide +kernel) (by decide +kernel)
theorem ml_X7_161 : Cond.methodLink RX7 161 yX7_choose ∈ lw_big := bg 893 (by decide +kernel) (by decide +kernel)
theorem st_X7_choose : Cond.static yX7_choose ∈ lw_big := bg 894 (by decide +kernel) (by decide +kernel)
theorem cw_X7_choose : Cond.code yX7_choose cX7_choose 5 (some .long) ∈ lw_big := bg 895 (by decide +kernel) (by decide +kernel)
theorem ml_X7_165 : Cond.methodLink RX7 165 yX7_power1 ∈ lw_big := bg 896 (by decide +kernel) (by decide +kernel)
theorem st_X7_power1 : Cond.static yX7_power1 ∈ lw_big := bg 897 (by decide +kernel) (by decide +kernel)
theorem cw_X7_power1 : Cond.code yX7_power1 cX7_power1 6 (some .long) ∈ lw_big := bg 898 (by decide +kernel) (by decide +kernel)
theorem ml_X7_183 : Cond.methodLink RX7 183 yX7_allWays ∈ lw_big := bg 899 (by decide +kernel) (by decide +kernel)
theorem im_X7_allWays : Cond.instanceMethod yX7_allWays ∈ lw_big := bg 901 (by decide +kernel) (by decide +kernel)
theorem cw_X7_allWays : Cond.code yX7_allWays cX7_allWays 1 (some .long) ∈ lw_big := bg 902 (by decide +kernel) (by decide +kernel)
theorem ml_X7_187 : Cond.methodLink RX7 187 yX7_common ∈ lw_big := bg 903 (by decide +kernel) (by decide +kernel)
theorem st_X7_common : Cond.static yX7_common ∈ lw_big := bg 904 (by decide +kernel) (by decide +kernel)
theorem cw_X7_common : Cond.code yX7_common cX7_common 10 (some .long) ∈ lw_big := bg 905 (by decide +kernel) (by decide +kernel)
theorem ml_L_89 : Cond.methodLink RL 89 yX7_factor ∈ lw_big := bg 906 (by decide +kernel) (by decide +kernel)
theorem im_X7_factor : Cond.instanceMethod yX7_factor ∈ lw_big := bg 907 (by decide +kernel) (by decide +kernel)
theorem se_X7_factor : Cond.selects RX7 yX7_factor yX7_factor ∈ lw_big := bg 908 (by decide +kernel) (by decide +kernel)
theorem cw_X7_factor : Cond.code yX7_factor cX7_factor 4 (some .int) ∈ lw_big := bg 909 (by decide +kernel) (by decide +kernel)
theorem ki_X7_191 : Cond.constant RX7 191 (1000000) ∈ lw_big := bg 910 (by decide +kernel) (by decide +kernel)
theorem ml_X7_192 : Cond.methodLink RX7 192 yX7_isNoMore ∈ lw_big := bg 911 (by decide +kernel) (by decide +kernel)
theorem st_X7_isNoMore : Cond.static yX7_isNoMore ∈ lw_big := bg 912 (by decide +kernel) (by decide +kernel)
theorem cw_X7_isNoMore : Cond.code yX7_isNoMore cX7_isNoMore 21 (some .boolean) ∈ lw_big := bg 913 (by decide +kernel) (by decide +kernel)
theorem ml_L_93 : Cond.methodLink RL 93 yX7_drawn ∈ lw_big := bg 914 (by decide +kernel) (by decide +kernel)
theorem im_X7_drawn : Cond.instanceMethod yX7_drawn ∈ lw_big := bg 915 (by decide +kernel) (by decide +kernel)
theorem se_X7_drawn : Cond.selects RX7 yX7_drawn yX7_drawn ∈ lw_big := bg 916 (by decide +kernel) (by decide +kernel)
theorem cw_X7_drawn : Cond.code yX7_drawn cX7_drawn 5 (some .int) ∈ lw_big := bg 917 (by decide +kernel) (by decide +kernel)
theorem ml_X7_196 : Cond.methodLink RX7 196 yX7_sign ∈ lw_big := bg 918 (by decide +kernel) (by decide +kernel)
theorem im_X7_sign : Cond.instanceMethod yX7_sign ∈ lw_big := bg 920 (by decide +kernel) (by decide +kernel)
theorem cw_X7_sign : Cond.code yX7_sign cX7_sign 2 (some .int) ∈ lw_big := bg 921 (by decide +kernel) (by decide +kernel)
theorem ml_X7_199 : Cond.methodLink RX7 199 yX7_figure ∈ lw_big := bg 922 (by decide +kernel) (by decide +kernel)
theorem st_X7_figure : Cond.static yX7_figure ∈ lw_big := bg 923 (by decide +kernel) (by decide +kernel)
theorem cw_X7_figure : Cond.code yX7_figure cX7_figure 2 (some .int) ∈ lw_big := bg 924 (by decide +kernel) (by decide +kernel)
theorem ml_L_97 : Cond.methodLink RL 97 yX7_count ∈ lw_big := bg 925 (by decide +kernel) (by decide +kernel)
theorem im_X7_count : Cond.instanceMethod yX7_count ∈ lw_big := bg 926 (by decide +kernel) (by decide +kernel)
theorem se_X7_count : Cond.selects RX7 yX7_count yX7_count ∈ lw_big := bg 927 (by decide +kernel) (by decide +kernel)
theorem cw_X7_count : Cond.code yX7_count cX7_count 2 (some .int) ∈ lw_big := bg 928 (by decide +kernel) (by decide +kernel)
theorem fl_J0_9 : Cond.fieldLink RJ0 9 "java/lang/String" "value" "[B" ∈ lw_big := bg 929 (by decide +kernel) (by decide +kernel)
theorem fl_J0_15 : Cond.fieldLink RJ0 15 "java/lang/String" "coder" "B" ∈ lw_big := bg 930 (by decide +kernel) (by decide +kernel)
theorem uw_X0 : ∀ w ∈ u_ws RX0 TX0 7, w ∈ lw_big := big_ws (by decide +kernel) (by decide +kernel)
theorem pl_X0 : plainName RX0 = true := by decide +kernel
theorem uw_X1 : ∀ w ∈ u_ws RX1 TX1 4, w ∈ lw_big := big_ws (by decide +kernel) (by decide +kernel)
theorem pl_X1 : plainName RX1 = true := by decide +kernel
theorem uw_X2 : ∀ w ∈ u_ws RX2 TX2 4, w ∈ lw_big := big_ws (by decide +kernel) (by decide +kernel)
theorem pl_X2 : plainName RX2 = true := by decide +kernel
theorem uw_X3 : ∀ w ∈ u_ws RX3 TX3 8, w ∈ lw_big := big_ws (by decide +kernel) (by decide +kernel)
theorem pl_X3 : plainName RX3 = true := by decide +kernel
theorem uw_X4 : ∀ w ∈ u_ws RX4 TX4 3, w ∈ lw_big := big_ws (by decide +kernel) (by decide +kernel)
theorem pl_X4 : plainName RX4 = true := by decide +kernel
theorem uw_X5 : ∀ w ∈ u_ws RX5 TX5 5, w ∈ lw_big := big_ws (by decide +kernel) (by decide +kernel)
theorem pl_X5 : plainName RX5 = true := by decide +kernel
theorem uw_X6 : ∀ w ∈ u_ws RX6 TX6 6, w ∈ lw_big := big_ws (by decide +kernel) (by decide +kernel)
theorem pl_X6 : plainName RX6 = true := by decide +kernel
theorem uw_X7 : ∀ w ∈ u_ws RX7 TX7 15, w ∈ lw_big := big_ws (by decide +kernel) (by decide +kernel)
theorem pl_X7 : plainName RX7 = true := by decide +kernel
theorem pl_J0 : plainName RJ0 = true := by decide +kernel
theorem pl_J1 : plainName RJ1 = true := by decide +kernel
theorem pl_J2 : plainName RJ2 = true := by decide +kernel
theorem pl_J3 : plainName RJ3 = true := by decide +kernel
theorem pl_J7 : plainName RJ7 = true := by decide +kernel
end
section
theorem dX7_init_0 : decode cX7_init 0 = .ok (.aload_n 0, 1) := by decide +kernel
theorem dX7_init_1 : decode cX7_init 1 = .ok (.invokespecial 1, 3) := by decide +kernel
theorem dX7_init_4 : decode cX7_init 4 = .ok (.aload_n 0, 1) := by decide +kernel
theorem dX7_init_5 : decode cX7_init 5 = .ok (.sipush 200, 3) := by decide +kernel
theorem dX7_init_8 : decode cX7_init 8 = .ok (.newarray .int, 2) := by decide +kernel
theorem dX7_init_10 : decode cX7_init 10 = .ok (.putfield 7, 3) := by decide +kernel
theorem dX7_init_13 : decode cX7_init 13 = .ok (.aload_n 0, 1) := by decide +kernel
theorem dX7_init_14 : decode cX7_init 14 = .ok (.bipush 8, 2) := by decide +kernel
theorem dX7_init_16 : decode cX7_init 16 = .ok (.newarray .int, 2) := by decide +kernel
theorem dX7_init_18 : decode cX7_init 18 = .ok (.putfield 13, 3) := by decide +kernel
theorem dX7_init_21 : decode cX7_init 21 = .ok (.aload_n 0, 1) := by decide +kernel
theorem dX7_init_22 : decode cX7_init 22 = .ok (.bipush 102, 2) := by decide +kernel
theorem dX7_init_24 : decode cX7_init 24 = .ok (.newarray .int, 2) := by decide +kernel
theorem dX7_init_26 : decode cX7_init 26 = .ok (.putfield 16, 3) := by decide +kernel
theorem dX7_init_29 : decode cX7_init 29 = .ok (.aload_n 0, 1) := by decide +kernel
theorem dX7_init_30 : decode cX7_init 30 = .ok (.sipush 612, 3) := by decide +kernel
theorem dX7_init_33 : decode cX7_init 33 = .ok (.newarray .int, 2) := by decide +kernel
theorem dX7_init_35 : decode cX7_init 35 = .ok (.putfield 19, 3) := by decide +kernel
theorem dX7_init_38 : decode cX7_init 38 = .ok (.aload_n 0, 1) := by decide +kernel
theorem dX7_init_39 : decode cX7_init 39 = .ok (.bipush 102, 2) := by decide +kernel
theorem dX7_init_41 : decode cX7_init 41 = .ok (.newarray .int, 2) := by decide +kernel
theorem dX7_init_43 : decode cX7_init 43 = .ok (.putfield 22, 3) := by decide +kernel
theorem dX7_init_46 : decode cX7_init 46 = .ok (.aload_n 0, 1) := by decide +kernel
theorem dX7_init_47 : decode cX7_init 47 = .ok (.bipush 8, 2) := by decide +kernel
theorem dX7_init_49 : decode cX7_init 49 = .ok (.newarray .int, 2) := by decide +kernel
theorem dX7_init_51 : decode cX7_init 51 = .ok (.putfield 25, 3) := by decide +kernel
theorem dX7_init_54 : decode cX7_init 54 = .ok (.aload_n 0, 1) := by decide +kernel
theorem dX7_init_55 : decode cX7_init 55 = .ok (.bipush 12, 2) := by decide +kernel
theorem dX7_init_57 : decode cX7_init 57 = .ok (.newarray .int, 2) := by decide +kernel
theorem dX7_init_59 : decode cX7_init 59 = .ok (.putfield 28, 3) := by decide +kernel
theorem dX7_init_62 : decode cX7_init 62 = .ok (.aload_n 0, 1) := by decide +kernel
theorem dX7_init_63 : decode cX7_init 63 = .ok (.invokevirtual 31, 3) := by decide +kernel
theorem dX7_init_66 : decode cX7_init 66 = .ok (.aload_n 0, 1) := by decide +kernel
theorem dX7_init_67 : decode cX7_init 67 = .ok (.iconst 3, 1) := by decide +kernel
theorem dX7_init_68 : decode cX7_init 68 = .ok (.iconst 1, 1) := by decide +kernel
theorem dX7_init_69 : decode cX7_init 69 = .ok (.iconst 4, 1) := by decide +kernel
theorem dX7_init_70 : decode cX7_init 70 = .ok (.iconst 1, 1) := by decide +kernel
theorem dX7_init_71 : decode cX7_init 71 = .ok (.invokevirtual 34, 3) := by decide +kernel
theorem dX7_init_74 : decode cX7_init 74 = .ok (.aload_n 0, 1) := by decide +kernel
theorem dX7_init_75 : decode cX7_init 75 = .ok (.iconst 5, 1) := by decide +kernel
theorem dX7_init_76 : decode cX7_init 76 = .ok (.bipush 40, 2) := by decide +kernel
theorem dX7_init_78 : decode cX7_init 78 = .ok (.bipush 6, 2) := by decide +kernel
theorem dX7_init_80 : decode cX7_init 80 = .ok (.iconst 2, 1) := by decide +kernel
theorem dX7_init_81 : decode cX7_init 81 = .ok (.invokevirtual 34, 3) := by decide +kernel
theorem dX7_init_84 : decode cX7_init 84 = .ok (.aload_n 0, 1) := by decide +kernel
theorem dX7_init_85 : decode cX7_init 85 = .ok (.iconst 3, 1) := by decide +kernel
theorem dX7_init_86 : decode cX7_init 86 = .ok (.iconst 1, 1) := by decide +kernel
theorem dX7_init_87 : decode cX7_init 87 = .ok (.bipush 9, 2) := by decide +kernel
theorem dX7_init_89 : decode cX7_init 89 = .ok (.bipush 7, 2) := by decide +kernel
theorem dX7_init_91 : decode cX7_init 91 = .ok (.invokevirtual 34, 3) := by decide +kernel
theorem dX7_init_94 : decode cX7_init 94 = .ok (.aload_n 0, 1) := by decide +kernel
theorem dX7_init_95 : decode cX7_init 95 = .ok (.bipush 50, 2) := by decide +kernel
theorem dX7_init_97 : decode cX7_init 97 = .ok (.bipush 48, 2) := by decide +kernel
theorem dX7_init_99 : decode cX7_init 99 = .ok (.iconst 5, 1) := by decide +kernel
theorem dX7_init_100 : decode cX7_init 100 = .ok (.iconst 3, 1) := by decide +kernel
theorem dX7_init_101 : decode cX7_init 101 = .ok (.invokevirtual 34, 3) := by decide +kernel
theorem dX7_init_104 : decode cX7_init 104 = .ok (.aload_n 0, 1) := by decide +kernel
theorem dX7_init_105 : decode cX7_init 105 = .ok (.iconst 2, 1) := by decide +kernel
theorem dX7_init_106 : decode cX7_init 106 = .ok (.iconst 1, 1) := by decide +kernel
theorem dX7_init_107 : decode cX7_init 107 = .ok (.bipush 6, 2) := by decide +kernel
theorem dX7_init_109 : decode cX7_init 109 = .ok (.bipush 20, 2) := by decide +kernel
theorem dX7_init_111 : decode cX7_init 111 = .ok (.invokevirtual 34, 3) := by decide +kernel
theorem dX7_init_114 : decode cX7_init 114 = .ok (.aload_n 0, 1) := by decide +kernel
theorem dX7_init_115 : decode cX7_init 115 = .ok (.invokevirtual 38, 3) := by decide +kernel
theorem dX7_init_118 : decode cX7_init 118 = .ok (.return_, 1) := by decide +kernel
theorem dX7_adds_0 : decode cX7_adds 0 = .ok (.aload_n 0, 1) := by decide +kernel
theorem dX7_adds_1 : decode cX7_adds 1 = .ok (.getfield 22, 3) := by decide +kernel
theorem dX7_adds_4 : decode cX7_adds 4 = .ok (.aload_n 0, 1) := by decide +kernel
theorem dX7_adds_5 : decode cX7_adds 5 = .ok (.getfield 41, 3) := by decide +kernel
theorem dX7_adds_8 : decode cX7_adds 8 = .ok (.iload_n 1, 1) := by decide +kernel
theorem dX7_adds_9 : decode cX7_adds 9 = .ok (.iastore, 1) := by decide +kernel
theorem dX7_adds_10 : decode cX7_adds 10 = .ok (.aload_n 0, 1) := by decide +kernel
theorem dX7_adds_11 : decode cX7_adds 11 = .ok (.getfield 22, 3) := by decide +kernel
theorem dX7_adds_14 : decode cX7_adds 14 = .ok (.aload_n 0, 1) := by decide +kernel
theorem dX7_adds_15 : decode cX7_adds 15 = .ok (.getfield 41, 3) := by decide +kernel
theorem dX7_adds_18 : decode cX7_adds 18 = .ok (.iconst 1, 1) := by decide +kernel
theorem dX7_adds_19 : decode cX7_adds 19 = .ok (.iadd, 1) := by decide +kernel
theorem dX7_adds_20 : decode cX7_adds 20 = .ok (.iload_n 2, 1) := by decide +kernel
theorem dX7_adds_21 : decode cX7_adds 21 = .ok (.iastore, 1) := by decide +kernel
theorem dX7_adds_22 : decode cX7_adds 22 = .ok (.aload_n 0, 1) := by decide +kernel
theorem dX7_adds_23 : decode cX7_adds 23 = .ok (.getfield 22, 3) := by decide +kernel
theorem dX7_adds_26 : decode cX7_adds 26 = .ok (.aload_n 0, 1) := by decide +kernel
theorem dX7_adds_27 : decode cX7_adds 27 = .ok (.getfield 41, 3) := by decide +kernel
theorem dX7_adds_30 : decode cX7_adds 30 = .ok (.iconst 2, 1) := by decide +kernel
theorem dX7_adds_31 : decode cX7_adds 31 = .ok (.iadd, 1) := by decide +kernel
theorem dX7_adds_32 : decode cX7_adds 32 = .ok (.iload_n 3, 1) := by decide +kernel
theorem dX7_adds_33 : decode cX7_adds 33 = .ok (.iastore, 1) := by decide +kernel
theorem dX7_adds_34 : decode cX7_adds 34 = .ok (.aload_n 0, 1) := by decide +kernel
theorem dX7_adds_35 : decode cX7_adds 35 = .ok (.getfield 22, 3) := by decide +kernel
theorem dX7_adds_38 : decode cX7_adds 38 = .ok (.aload_n 0, 1) := by decide +kernel
theorem dX7_adds_39 : decode cX7_adds 39 = .ok (.getfield 41, 3) := by decide +kernel
theorem dX7_adds_42 : decode cX7_adds 42 = .ok (.iconst 3, 1) := by decide +kernel
theorem dX7_adds_43 : decode cX7_adds 43 = .ok (.iadd, 1) := by decide +kernel
theorem dX7_adds_44 : decode cX7_adds 44 = .ok (.iload 4, 2) := by decide +kernel
theorem dX7_adds_46 : decode cX7_adds 46 = .ok (.iastore, 1) := by decide +kernel
theorem dX7_adds_47 : decode cX7_adds 47 = .ok (.aload_n 0, 1) := by decide +kernel
theorem dX7_adds_48 : decode cX7_adds 48 = .ok (.dup, 1) := by decide +kernel
theorem dX7_adds_49 : decode cX7_adds 49 = .ok (.getfield 41, 3) := by decide +kernel
theorem dX7_adds_52 : decode cX7_adds 52 = .ok (.iconst 4, 1) := by decide +kernel
theorem dX7_adds_53 : decode cX7_adds 53 = .ok (.iadd, 1) := by decide +kernel
theorem dX7_adds_54 : decode cX7_adds 54 = .ok (.putfield 41, 3) := by decide +kernel
theorem dX7_adds_57 : decode cX7_adds 57 = .ok (.return_, 1) := by decide +kernel
theorem dX7_isIn_0 : decode cX7_isIn 0 = .ok (.iload_n 0, 1) := by decide +kernel
theorem dX7_isIn_1 : decode cX7_isIn 1 = .ok (.iload_n 1, 1) := by decide +kernel
theorem dX7_isIn_2 : decode cX7_isIn 2 = .ok (.if_icmp .lt 12, 3) := by decide +kernel
theorem dX7_isIn_5 : decode cX7_isIn 5 = .ok (.iload_n 0, 1) := by decide +kernel
theorem dX7_isIn_6 : decode cX7_isIn 6 = .ok (.iload_n 2, 1) := by decide +kernel
theorem dX7_isIn_7 : decode cX7_isIn 7 = .ok (.if_icmp .gt 7, 3) := by decide +kernel
theorem dX7_isIn_10 : decode cX7_isIn 10 = .ok (.iconst 1, 1) := by decide +kernel
theorem dX7_isIn_11 : decode cX7_isIn 11 = .ok (.goto 4, 3) := by decide +kernel
theorem dX7_isIn_14 : decode cX7_isIn 14 = .ok (.iconst 0, 1) := by decide +kernel
theorem dX7_isIn_15 : decode cX7_isIn 15 = .ok (.ireturn, 1) := by decide +kernel
theorem dX7_clears_0 : decode cX7_clears 0 = .ok (.aload_n 0, 1) := by decide +kernel
theorem dX7_clears_1 : decode cX7_clears 1 = .ok (.iconst 0, 1) := by decide +kernel
theorem dX7_clears_2 : decode cX7_clears 2 = .ok (.putfield 41, 3) := by decide +kernel
theorem dX7_clears_5 : decode cX7_clears 5 = .ok (.iconst 0, 1) := by decide +kernel
theorem dX7_clears_6 : decode cX7_clears 6 = .ok (.istore_n 1, 1) := by decide +kernel
theorem dX7_clears_7 : decode cX7_clears 7 = .ok (.iload_n 1, 1) := by decide +kernel
theorem dX7_clears_8 : decode cX7_clears 8 = .ok (.bipush 102, 2) := by decide +kernel
theorem dX7_clears_10 : decode cX7_clears 10 = .ok (.if_icmp .ge 16, 3) := by decide +kernel
theorem dX7_clears_13 : decode cX7_clears 13 = .ok (.aload_n 0, 1) := by decide +kernel
theorem dX7_clears_14 : decode cX7_clears 14 = .ok (.getfield 22, 3) := by decide +kernel
theorem dX7_clears_17 : decode cX7_clears 17 = .ok (.iload_n 1, 1) := by decide +kernel
theorem dX7_clears_18 : decode cX7_clears 18 = .ok (.iconst 0, 1) := by decide +kernel
theorem dX7_clears_19 : decode cX7_clears 19 = .ok (.iastore, 1) := by decide +kernel
theorem dX7_clears_20 : decode cX7_clears 20 = .ok (.iinc 1 1, 3) := by decide +kernel
theorem dX7_clears_23 : decode cX7_clears 23 = .ok (.goto (-16), 3) := by decide +kernel
theorem dX7_clears_26 : decode cX7_clears 26 = .ok (.aload_n 0, 1) := by decide +kernel
theorem dX7_clears_27 : decode cX7_clears 27 = .ok (.getfield 22, 3) := by decide +kernel
theorem dX7_clears_30 : decode cX7_clears 30 = .ok (.bipush 96, 2) := by decide +kernel
theorem dX7_clears_32 : decode cX7_clears 32 = .ok (.iconst 3, 1) := by decide +kernel
theorem dX7_clears_33 : decode cX7_clears 33 = .ok (.iastore, 1) := by decide +kernel
theorem dX7_clears_34 : decode cX7_clears 34 = .ok (.aload_n 0, 1) := by decide +kernel
theorem dX7_clears_35 : decode cX7_clears 35 = .ok (.getfield 22, 3) := by decide +kernel
theorem dX7_clears_38 : decode cX7_clears 38 = .ok (.bipush 97, 2) := by decide +kernel
theorem dX7_clears_40 : decode cX7_clears 40 = .ok (.iconst 1, 1) := by decide +kernel
theorem dX7_clears_41 : decode cX7_clears 41 = .ok (.iastore, 1) := by decide +kernel
theorem dX7_clears_42 : decode cX7_clears 42 = .ok (.aload_n 0, 1) := by decide +kernel
theorem dX7_clears_43 : decode cX7_clears 43 = .ok (.getfield 22, 3) := by decide +kernel
theorem dX7_clears_46 : decode cX7_clears 46 = .ok (.bipush 98, 2) := by decide +kernel
theorem dX7_clears_48 : decode cX7_clears 48 = .ok (.iconst 4, 1) := by decide +kernel
theorem dX7_clears_49 : decode cX7_clears 49 = .ok (.iastore, 1) := by decide +kernel
theorem dX7_clears_50 : decode cX7_clears 50 = .ok (.aload_n 0, 1) := by decide +kernel
theorem dX7_clears_51 : decode cX7_clears 51 = .ok (.getfield 22, 3) := by decide +kernel
theorem dX7_clears_54 : decode cX7_clears 54 = .ok (.bipush 99, 2) := by decide +kernel
theorem dX7_clears_56 : decode cX7_clears 56 = .ok (.iconst 2, 1) := by decide +kernel
theorem dX7_clears_57 : decode cX7_clears 57 = .ok (.iastore, 1) := by decide +kernel
theorem dX7_clears_58 : decode cX7_clears 58 = .ok (.aload_n 0, 1) := by decide +kernel
theorem dX7_clears_59 : decode cX7_clears 59 = .ok (.getfield 22, 3) := by decide +kernel
theorem dX7_clears_62 : decode cX7_clears 62 = .ok (.bipush 100, 2) := by decide +kernel
theorem dX7_clears_64 : decode cX7_clears 64 = .ok (.iconst 1, 1) := by decide +kernel
theorem dX7_clears_65 : decode cX7_clears 65 = .ok (.iastore, 1) := by decide +kernel
theorem dX7_clears_66 : decode cX7_clears 66 = .ok (.aload_n 0, 1) := by decide +kernel
theorem dX7_clears_67 : decode cX7_clears 67 = .ok (.iconst 4, 1) := by decide +kernel
theorem dX7_clears_68 : decode cX7_clears 68 = .ok (.putfield 45, 3) := by decide +kernel
theorem dX7_clears_71 : decode cX7_clears 71 = .ok (.aload_n 0, 1) := by decide +kernel
theorem dX7_clears_72 : decode cX7_clears 72 = .ok (.getfield 25, 3) := by decide +kernel
theorem dX7_clears_75 : decode cX7_clears 75 = .ok (.iconst 0, 1) := by decide +kernel
theorem dX7_clears_76 : decode cX7_clears 76 = .ok (.iconst 4, 1) := by decide +kernel
theorem dX7_clears_77 : decode cX7_clears 77 = .ok (.iastore, 1) := by decide +kernel
theorem dX7_clears_78 : decode cX7_clears 78 = .ok (.aload_n 0, 1) := by decide +kernel
theorem dX7_clears_79 : decode cX7_clears 79 = .ok (.getfield 25, 3) := by decide +kernel
theorem dX7_clears_82 : decode cX7_clears 82 = .ok (.iconst 1, 1) := by decide +kernel
theorem dX7_clears_83 : decode cX7_clears 83 = .ok (.iconst 2, 1) := by decide +kernel
theorem dX7_clears_84 : decode cX7_clears 84 = .ok (.iastore, 1) := by decide +kernel
theorem dX7_clears_85 : decode cX7_clears 85 = .ok (.aload_n 0, 1) := by decide +kernel
theorem dX7_clears_86 : decode cX7_clears 86 = .ok (.getfield 25, 3) := by decide +kernel
theorem dX7_clears_89 : decode cX7_clears 89 = .ok (.iconst 2, 1) := by decide +kernel
theorem dX7_clears_90 : decode cX7_clears 90 = .ok (.iconst 1, 1) := by decide +kernel
theorem dX7_clears_91 : decode cX7_clears 91 = .ok (.iastore, 1) := by decide +kernel
theorem dX7_clears_92 : decode cX7_clears 92 = .ok (.aload_n 0, 1) := by decide +kernel
theorem dX7_clears_93 : decode cX7_clears 93 = .ok (.getfield 25, 3) := by decide +kernel
theorem dX7_clears_96 : decode cX7_clears 96 = .ok (.iconst 3, 1) := by decide +kernel
theorem dX7_clears_97 : decode cX7_clears 97 = .ok (.iconst 1, 1) := by decide +kernel
theorem dX7_clears_98 : decode cX7_clears 98 = .ok (.iastore, 1) := by decide +kernel
theorem dX7_clears_99 : decode cX7_clears 99 = .ok (.return_, 1) := by decide +kernel
theorem dX7_takes_0 : decode cX7_takes 0 = .ok (.aload_n 0, 1) := by decide +kernel
theorem dX7_takes_1 : decode cX7_takes 1 = .ok (.aload_n 0, 1) := by decide +kernel
theorem dX7_takes_2 : decode cX7_takes 2 = .ok (.getfield 41, 3) := by decide +kernel
theorem dX7_takes_5 : decode cX7_takes 5 = .ok (.putfield 48, 3) := by decide +kernel
theorem dX7_takes_8 : decode cX7_takes 8 = .ok (.aload_n 0, 1) := by decide +kernel
theorem dX7_takes_9 : decode cX7_takes 9 = .ok (.aload_n 0, 1) := by decide +kernel
theorem dX7_takes_10 : decode cX7_takes 10 = .ok (.getfield 45, 3) := by decide +kernel
theorem dX7_takes_13 : decode cX7_takes 13 = .ok (.putfield 51, 3) := by decide +kernel
theorem dX7_takes_16 : decode cX7_takes 16 = .ok (.iconst 0, 1) := by decide +kernel
theorem dX7_takes_17 : decode cX7_takes 17 = .ok (.istore_n 1, 1) := by decide +kernel
theorem dX7_takes_18 : decode cX7_takes 18 = .ok (.iload_n 1, 1) := by decide +kernel
theorem dX7_takes_19 : decode cX7_takes 19 = .ok (.bipush 8, 2) := by decide +kernel
theorem dX7_takes_21 : decode cX7_takes 21 = .ok (.if_icmp .ge 33, 3) := by decide +kernel
theorem dX7_takes_24 : decode cX7_takes 24 = .ok (.aload_n 0, 1) := by decide +kernel
theorem dX7_takes_25 : decode cX7_takes 25 = .ok (.getfield 13, 3) := by decide +kernel
theorem dX7_takes_28 : decode cX7_takes 28 = .ok (.iload_n 1, 1) := by decide +kernel
theorem dX7_takes_29 : decode cX7_takes 29 = .ok (.iload_n 1, 1) := by decide +kernel
theorem dX7_takes_30 : decode cX7_takes 30 = .ok (.aload_n 0, 1) := by decide +kernel
theorem dX7_takes_31 : decode cX7_takes 31 = .ok (.getfield 51, 3) := by decide +kernel
theorem dX7_takes_34 : decode cX7_takes 34 = .ok (.if_icmp .ge 12, 3) := by decide +kernel
theorem dX7_takes_37 : decode cX7_takes 37 = .ok (.aload_n 0, 1) := by decide +kernel
theorem dX7_takes_38 : decode cX7_takes 38 = .ok (.getfield 25, 3) := by decide +kernel
theorem dX7_takes_41 : decode cX7_takes 41 = .ok (.iload_n 1, 1) := by decide +kernel
theorem dX7_takes_42 : decode cX7_takes 42 = .ok (.iaload, 1) := by decide +kernel
theorem dX7_takes_43 : decode cX7_takes 43 = .ok (.goto 4, 3) := by decide +kernel
theorem dX7_takes_46 : decode cX7_takes 46 = .ok (.iconst 0, 1) := by decide +kernel
theorem dX7_takes_47 : decode cX7_takes 47 = .ok (.iastore, 1) := by decide +kernel
theorem dX7_takes_48 : decode cX7_takes 48 = .ok (.iinc 1 1, 3) := by decide +kernel
theorem dX7_takes_51 : decode cX7_takes 51 = .ok (.goto (-33), 3) := by decide +kernel
theorem dX7_takes_54 : decode cX7_takes 54 = .ok (.iconst 0, 1) := by decide +kernel
theorem dX7_takes_55 : decode cX7_takes 55 = .ok (.istore_n 1, 1) := by decide +kernel
theorem dX7_takes_56 : decode cX7_takes 56 = .ok (.iload_n 1, 1) := by decide +kernel
theorem dX7_takes_57 : decode cX7_takes 57 = .ok (.bipush 102, 2) := by decide +kernel
theorem dX7_takes_59 : decode cX7_takes 59 = .ok (.if_icmp .ge 21, 3) := by decide +kernel
theorem dX7_takes_62 : decode cX7_takes 62 = .ok (.aload_n 0, 1) := by decide +kernel
theorem dX7_takes_63 : decode cX7_takes 63 = .ok (.getfield 16, 3) := by decide +kernel
theorem dX7_takes_66 : decode cX7_takes 66 = .ok (.iload_n 1, 1) := by decide +kernel
theorem dX7_takes_67 : decode cX7_takes 67 = .ok (.aload_n 0, 1) := by decide +kernel
theorem dX7_takes_68 : decode cX7_takes 68 = .ok (.getfield 22, 3) := by decide +kernel
theorem dX7_takes_71 : decode cX7_takes 71 = .ok (.iload_n 1, 1) := by decide +kernel
theorem dX7_takes_72 : decode cX7_takes 72 = .ok (.iaload, 1) := by decide +kernel
theorem dX7_takes_73 : decode cX7_takes 73 = .ok (.iastore, 1) := by decide +kernel
theorem dX7_takes_74 : decode cX7_takes 74 = .ok (.iinc 1 1, 3) := by decide +kernel
theorem dX7_takes_77 : decode cX7_takes 77 = .ok (.goto (-21), 3) := by decide +kernel
theorem dX7_takes_80 : decode cX7_takes 80 = .ok (.aload_n 0, 1) := by decide +kernel
theorem dX7_takes_81 : decode cX7_takes 81 = .ok (.iconst 0, 1) := by decide +kernel
theorem dX7_takes_82 : decode cX7_takes 82 = .ok (.putfield 54, 3) := by decide +kernel
theorem dX7_takes_85 : decode cX7_takes 85 = .ok (.return_, 1) := by decide +kernel
theorem dX7_letterAt_0 : decode cX7_letterAt 0 = .ok (.iload_n 1, 1) := by decide +kernel
theorem dX7_letterAt_1 : decode cX7_letterAt 1 = .ok (.aload_n 0, 1) := by decide +kernel
theorem dX7_letterAt_2 : decode cX7_letterAt 2 = .ok (.getfield 57, 3) := by decide +kernel
theorem dX7_letterAt_5 : decode cX7_letterAt 5 = .ok (.if_icmp .ge 12, 3) := by decide +kernel
theorem dX7_letterAt_8 : decode cX7_letterAt 8 = .ok (.aload_n 0, 1) := by decide +kernel
theorem dX7_letterAt_9 : decode cX7_letterAt 9 = .ok (.getfield 7, 3) := by decide +kernel
theorem dX7_letterAt_12 : decode cX7_letterAt 12 = .ok (.iload_n 1, 1) := by decide +kernel
theorem dX7_letterAt_13 : decode cX7_letterAt 13 = .ok (.iaload, 1) := by decide +kernel
theorem dX7_letterAt_14 : decode cX7_letterAt 14 = .ok (.goto 4, 3) := by decide +kernel
theorem dX7_letterAt_17 : decode cX7_letterAt 17 = .ok (.iconst 0, 1) := by decide +kernel
theorem dX7_letterAt_18 : decode cX7_letterAt 18 = .ok (.ireturn, 1) := by decide +kernel
theorem dX7_number_0 : decode cX7_number 0 = .ok (.iconst (-1), 1) := by decide +kernel
theorem dX7_number_1 : decode cX7_number 1 = .ok (.istore_n 2, 1) := by decide +kernel
theorem dX7_number_2 : decode cX7_number 2 = .ok (.aload_n 0, 1) := by decide +kernel
theorem dX7_number_3 : decode cX7_number 3 = .ok (.iload_n 1, 1) := by decide +kernel
theorem dX7_number_4 : decode cX7_number 4 = .ok (.putfield 60, 3) := by decide +kernel
theorem dX7_number_7 : decode cX7_number 7 = .ok (.aload_n 0, 1) := by decide +kernel
theorem dX7_number_8 : decode cX7_number 8 = .ok (.getfield 60, 3) := by decide +kernel
theorem dX7_number_11 : decode cX7_number 11 = .ok (.iload_n 1, 1) := by decide +kernel
theorem dX7_number_12 : decode cX7_number 12 = .ok (.iconst 2, 1) := by decide +kernel
theorem dX7_number_13 : decode cX7_number 13 = .ok (.iadd, 1) := by decide +kernel
theorem dX7_number_14 : decode cX7_number 14 = .ok (.if_icmp .ge 68, 3) := by decide +kernel
theorem dX7_number_17 : decode cX7_number 17 = .ok (.aload_n 0, 1) := by decide +kernel
theorem dX7_number_18 : decode cX7_number 18 = .ok (.aload_n 0, 1) := by decide +kernel
theorem dX7_number_19 : decode cX7_number 19 = .ok (.getfield 60, 3) := by decide +kernel
theorem dX7_number_22 : decode cX7_number 22 = .ok (.invokevirtual 63, 3) := by decide +kernel
theorem dX7_number_25 : decode cX7_number 25 = .ok (.bipush 48, 2) := by decide +kernel
theorem dX7_number_27 : decode cX7_number 27 = .ok (.if_icmp .lt 55, 3) := by decide +kernel
theorem dX7_number_30 : decode cX7_number 30 = .ok (.aload_n 0, 1) := by decide +kernel
theorem dX7_number_31 : decode cX7_number 31 = .ok (.aload_n 0, 1) := by decide +kernel
theorem dX7_number_32 : decode cX7_number 32 = .ok (.getfield 60, 3) := by decide +kernel
theorem dX7_number_35 : decode cX7_number 35 = .ok (.invokevirtual 63, 3) := by decide +kernel
theorem dX7_number_38 : decode cX7_number 38 = .ok (.bipush 57, 2) := by decide +kernel
theorem dX7_number_40 : decode cX7_number 40 = .ok (.if_icmp .gt 42, 3) := by decide +kernel
theorem dX7_number_43 : decode cX7_number 43 = .ok (.bipush 10, 2) := by decide +kernel
theorem dX7_number_45 : decode cX7_number 45 = .ok (.iload_n 2, 1) := by decide +kernel
theorem dX7_number_46 : decode cX7_number 46 = .ok (.ifCond .ge 7, 3) := by decide +kernel
theorem dX7_number_49 : decode cX7_number 49 = .ok (.iconst 0, 1) := by decide +kernel
theorem dX7_number_50 : decode cX7_number 50 = .ok (.goto 4, 3) := by decide +kernel
theorem dX7_number_53 : decode cX7_number 53 = .ok (.iload_n 2, 1) := by decide +kernel
theorem dX7_number_54 : decode cX7_number 54 = .ok (.imul, 1) := by decide +kernel
theorem dX7_number_55 : decode cX7_number 55 = .ok (.aload_n 0, 1) := by decide +kernel
theorem dX7_number_56 : decode cX7_number 56 = .ok (.getfield 7, 3) := by decide +kernel
theorem dX7_number_59 : decode cX7_number 59 = .ok (.aload_n 0, 1) := by decide +kernel
theorem dX7_number_60 : decode cX7_number 60 = .ok (.getfield 60, 3) := by decide +kernel
theorem dX7_number_63 : decode cX7_number 63 = .ok (.iaload, 1) := by decide +kernel
theorem dX7_number_64 : decode cX7_number 64 = .ok (.iadd, 1) := by decide +kernel
theorem dX7_number_65 : decode cX7_number 65 = .ok (.bipush 48, 2) := by decide +kernel
theorem dX7_number_67 : decode cX7_number 67 = .ok (.isub, 1) := by decide +kernel
theorem dX7_number_68 : decode cX7_number 68 = .ok (.istore_n 2, 1) := by decide +kernel
theorem dX7_number_69 : decode cX7_number 69 = .ok (.aload_n 0, 1) := by decide +kernel
theorem dX7_number_70 : decode cX7_number 70 = .ok (.dup, 1) := by decide +kernel
theorem dX7_number_71 : decode cX7_number 71 = .ok (.getfield 60, 3) := by decide +kernel
theorem dX7_number_74 : decode cX7_number 74 = .ok (.iconst 1, 1) := by decide +kernel
theorem dX7_number_75 : decode cX7_number 75 = .ok (.iadd, 1) := by decide +kernel
theorem dX7_number_76 : decode cX7_number 76 = .ok (.putfield 60, 3) := by decide +kernel
theorem dX7_number_79 : decode cX7_number 79 = .ok (.goto (-72), 3) := by decide +kernel
theorem dX7_number_82 : decode cX7_number 82 = .ok (.iload_n 2, 1) := by decide +kernel
theorem dX7_number_83 : decode cX7_number 83 = .ok (.ireturn, 1) := by decide +kernel
theorem dX7_isWord_0 : decode cX7_isWord 0 = .ok (.aload_n 0, 1) := by decide +kernel
theorem dX7_isWord_1 : decode cX7_isWord 1 = .ok (.iload_n 1, 1) := by decide +kernel
theorem dX7_isWord_2 : decode cX7_isWord 2 = .ok (.invokevirtual 63, 3) := by decide +kernel
theorem dX7_isWord_5 : decode cX7_isWord 5 = .ok (.iload_n 2, 1) := by decide +kernel
theorem dX7_isWord_6 : decode cX7_isWord 6 = .ok (.if_icmp .ne 42, 3) := by decide +kernel
theorem dX7_isWord_9 : decode cX7_isWord 9 = .ok (.aload_n 0, 1) := by decide +kernel
theorem dX7_isWord_10 : decode cX7_isWord 10 = .ok (.iload_n 1, 1) := by decide +kernel
theorem dX7_isWord_11 : decode cX7_isWord 11 = .ok (.iconst 1, 1) := by decide +kernel
theorem dX7_isWord_12 : decode cX7_isWord 12 = .ok (.iadd, 1) := by decide +kernel
theorem dX7_isWord_13 : decode cX7_isWord 13 = .ok (.invokevirtual 63, 3) := by decide +kernel
theorem dX7_isWord_16 : decode cX7_isWord 16 = .ok (.iload_n 3, 1) := by decide +kernel
theorem dX7_isWord_17 : decode cX7_isWord 17 = .ok (.if_icmp .ne 31, 3) := by decide +kernel
theorem dX7_isWord_20 : decode cX7_isWord 20 = .ok (.aload_n 0, 1) := by decide +kernel
theorem dX7_isWord_21 : decode cX7_isWord 21 = .ok (.iload_n 1, 1) := by decide +kernel
theorem dX7_isWord_22 : decode cX7_isWord 22 = .ok (.iconst 2, 1) := by decide +kernel
theorem dX7_isWord_23 : decode cX7_isWord 23 = .ok (.iadd, 1) := by decide +kernel
theorem dX7_isWord_24 : decode cX7_isWord 24 = .ok (.invokevirtual 63, 3) := by decide +kernel
theorem dX7_isWord_27 : decode cX7_isWord 27 = .ok (.iload 4, 2) := by decide +kernel
theorem dX7_isWord_29 : decode cX7_isWord 29 = .ok (.if_icmp .ne 19, 3) := by decide +kernel
theorem dX7_isWord_32 : decode cX7_isWord 32 = .ok (.aload_n 0, 1) := by decide +kernel
theorem dX7_isWord_33 : decode cX7_isWord 33 = .ok (.iload_n 1, 1) := by decide +kernel
theorem dX7_isWord_34 : decode cX7_isWord 34 = .ok (.iconst 3, 1) := by decide +kernel
theorem dX7_isWord_35 : decode cX7_isWord 35 = .ok (.iadd, 1) := by decide +kernel
theorem dX7_isWord_36 : decode cX7_isWord 36 = .ok (.invokevirtual 63, 3) := by decide +kernel
theorem dX7_isWord_39 : decode cX7_isWord 39 = .ok (.iload 5, 2) := by decide +kernel
theorem dX7_isWord_41 : decode cX7_isWord 41 = .ok (.if_icmp .ne 7, 3) := by decide +kernel
theorem dX7_isWord_44 : decode cX7_isWord 44 = .ok (.iconst 1, 1) := by decide +kernel
theorem dX7_isWord_45 : decode cX7_isWord 45 = .ok (.goto 4, 3) := by decide +kernel
theorem dX7_isWord_48 : decode cX7_isWord 48 = .ok (.iconst 0, 1) := by decide +kernel
theorem dX7_isWord_49 : decode cX7_isWord 49 = .ok (.ireturn, 1) := by decide +kernel
theorem dX7_readsCells_0 : decode cX7_readsCells 0 = .ok (.iload_n 1, 1) := by decide +kernel
theorem dX7_readsCells_1 : decode cX7_readsCells 1 = .ok (.istore_n 2, 1) := by decide +kernel
theorem dX7_readsCells_2 : decode cX7_readsCells 2 = .ok (.iconst 1, 1) := by decide +kernel
theorem dX7_readsCells_3 : decode cX7_readsCells 3 = .ok (.istore_n 3, 1) := by decide +kernel
theorem dX7_readsCells_4 : decode cX7_readsCells 4 = .ok (.iload_n 3, 1) := by decide +kernel
theorem dX7_readsCells_5 : decode cX7_readsCells 5 = .ok (.ifCond .eq 76, 3) := by decide +kernel
theorem dX7_readsCells_8 : decode cX7_readsCells 8 = .ok (.aload_n 0, 1) := by decide +kernel
theorem dX7_readsCells_9 : decode cX7_readsCells 9 = .ok (.iload_n 2, 1) := by decide +kernel
theorem dX7_readsCells_10 : decode cX7_readsCells 10 = .ok (.invokevirtual 67, 3) := by decide +kernel
theorem dX7_readsCells_13 : decode cX7_readsCells 13 = .ok (.istore 4, 2) := by decide +kernel
theorem dX7_readsCells_15 : decode cX7_readsCells 15 = .ok (.iload 4, 2) := by decide +kernel
theorem dX7_readsCells_17 : decode cX7_readsCells 17 = .ok (.ifCond .lt 12, 3) := by decide +kernel
theorem dX7_readsCells_20 : decode cX7_readsCells 20 = .ok (.aload_n 0, 1) := by decide +kernel
theorem dX7_readsCells_21 : decode cX7_readsCells 21 = .ok (.getfield 41, 3) := by decide +kernel
theorem dX7_readsCells_24 : decode cX7_readsCells 24 = .ok (.bipush 48, 2) := by decide +kernel
theorem dX7_readsCells_26 : decode cX7_readsCells 26 = .ok (.if_icmp .ne 5, 3) := by decide +kernel
theorem dX7_readsCells_29 : decode cX7_readsCells 29 = .ok (.iconst 0, 1) := by decide +kernel
theorem dX7_readsCells_30 : decode cX7_readsCells 30 = .ok (.ireturn, 1) := by decide +kernel
theorem dX7_readsCells_31 : decode cX7_readsCells 31 = .ok (.aload_n 0, 1) := by decide +kernel
theorem dX7_readsCells_32 : decode cX7_readsCells 32 = .ok (.getfield 22, 3) := by decide +kernel
theorem dX7_readsCells_35 : decode cX7_readsCells 35 = .ok (.aload_n 0, 1) := by decide +kernel
theorem dX7_readsCells_36 : decode cX7_readsCells 36 = .ok (.getfield 41, 3) := by decide +kernel
theorem dX7_readsCells_39 : decode cX7_readsCells 39 = .ok (.iload 4, 2) := by decide +kernel
theorem dX7_readsCells_41 : decode cX7_readsCells 41 = .ok (.iastore, 1) := by decide +kernel
theorem dX7_readsCells_42 : decode cX7_readsCells 42 = .ok (.aload_n 0, 1) := by decide +kernel
theorem dX7_readsCells_43 : decode cX7_readsCells 43 = .ok (.dup, 1) := by decide +kernel
theorem dX7_readsCells_44 : decode cX7_readsCells 44 = .ok (.getfield 41, 3) := by decide +kernel
theorem dX7_readsCells_47 : decode cX7_readsCells 47 = .ok (.iconst 1, 1) := by decide +kernel
theorem dX7_readsCells_48 : decode cX7_readsCells 48 = .ok (.iadd, 1) := by decide +kernel
theorem dX7_readsCells_49 : decode cX7_readsCells 49 = .ok (.putfield 41, 3) := by decide +kernel
theorem dX7_readsCells_52 : decode cX7_readsCells 52 = .ok (.aload_n 0, 1) := by decide +kernel
theorem dX7_readsCells_53 : decode cX7_readsCells 53 = .ok (.aload_n 0, 1) := by decide +kernel
theorem dX7_readsCells_54 : decode cX7_readsCells 54 = .ok (.getfield 60, 3) := by decide +kernel
theorem dX7_readsCells_57 : decode cX7_readsCells 57 = .ok (.invokevirtual 63, 3) := by decide +kernel
theorem dX7_readsCells_60 : decode cX7_readsCells 60 = .ok (.bipush 44, 2) := by decide +kernel
theorem dX7_readsCells_62 : decode cX7_readsCells 62 = .ok (.if_icmp .ne 7, 3) := by decide +kernel
theorem dX7_readsCells_65 : decode cX7_readsCells 65 = .ok (.iconst 1, 1) := by decide +kernel
theorem dX7_readsCells_66 : decode cX7_readsCells 66 = .ok (.goto 4, 3) := by decide +kernel
theorem dX7_readsCells_69 : decode cX7_readsCells 69 = .ok (.iconst 0, 1) := by decide +kernel
theorem dX7_readsCells_70 : decode cX7_readsCells 70 = .ok (.istore_n 3, 1) := by decide +kernel
theorem dX7_readsCells_71 : decode cX7_readsCells 71 = .ok (.aload_n 0, 1) := by decide +kernel
theorem dX7_readsCells_72 : decode cX7_readsCells 72 = .ok (.getfield 60, 3) := by decide +kernel
theorem dX7_readsCells_75 : decode cX7_readsCells 75 = .ok (.iconst 1, 1) := by decide +kernel
theorem dX7_readsCells_76 : decode cX7_readsCells 76 = .ok (.iadd, 1) := by decide +kernel
theorem dX7_readsCells_77 : decode cX7_readsCells 77 = .ok (.istore_n 2, 1) := by decide +kernel
theorem dX7_readsCells_78 : decode cX7_readsCells 78 = .ok (.goto (-74), 3) := by decide +kernel
theorem dX7_readsCells_81 : decode cX7_readsCells 81 = .ok (.iconst 1, 1) := by decide +kernel
theorem dX7_readsCells_82 : decode cX7_readsCells 82 = .ok (.ireturn, 1) := by decide +kernel
theorem dX7_readsLook_0 : decode cX7_readsLook 0 = .ok (.iload_n 1, 1) := by decide +kernel
theorem dX7_readsLook_1 : decode cX7_readsLook 1 = .ok (.istore_n 2, 1) := by decide +kernel
theorem dX7_readsLook_2 : decode cX7_readsLook 2 = .ok (.iconst 0, 1) := by decide +kernel
theorem dX7_readsLook_3 : decode cX7_readsLook 3 = .ok (.istore_n 3, 1) := by decide +kernel
theorem dX7_readsLook_4 : decode cX7_readsLook 4 = .ok (.iload_n 3, 1) := by decide +kernel
theorem dX7_readsLook_5 : decode cX7_readsLook 5 = .ok (.iconst 5, 1) := by decide +kernel
theorem dX7_readsLook_6 : decode cX7_readsLook 6 = .ok (.if_icmp .ge 70, 3) := by decide +kernel
theorem dX7_readsLook_9 : decode cX7_readsLook 9 = .ok (.aload_n 0, 1) := by decide +kernel
theorem dX7_readsLook_10 : decode cX7_readsLook 10 = .ok (.iload_n 2, 1) := by decide +kernel
theorem dX7_readsLook_11 : decode cX7_readsLook 11 = .ok (.invokevirtual 67, 3) := by decide +kernel
theorem dX7_readsLook_14 : decode cX7_readsLook 14 = .ok (.istore 4, 2) := by decide +kernel
theorem dX7_readsLook_16 : decode cX7_readsLook 16 = .ok (.iload 4, 2) := by decide +kernel
theorem dX7_readsLook_18 : decode cX7_readsLook 18 = .ok (.iload_n 3, 1) := by decide +kernel
theorem dX7_readsLook_19 : decode cX7_readsLook 19 = .ok (.invokestatic 70, 3) := by decide +kernel
theorem dX7_readsLook_22 : decode cX7_readsLook 22 = .ok (.iload_n 3, 1) := by decide +kernel
theorem dX7_readsLook_23 : decode cX7_readsLook 23 = .ok (.invokestatic 73, 3) := by decide +kernel
theorem dX7_readsLook_26 : decode cX7_readsLook 26 = .ok (.invokestatic 76, 3) := by decide +kernel
theorem dX7_readsLook_29 : decode cX7_readsLook 29 = .ok (.ifCond .eq 21, 3) := by decide +kernel
theorem dX7_readsLook_32 : decode cX7_readsLook 32 = .ok (.iload_n 3, 1) := by decide +kernel
theorem dX7_readsLook_33 : decode cX7_readsLook 33 = .ok (.iconst 4, 1) := by decide +kernel
theorem dX7_readsLook_34 : decode cX7_readsLook 34 = .ok (.if_icmp .ge 18, 3) := by decide +kernel
theorem dX7_readsLook_37 : decode cX7_readsLook 37 = .ok (.aload_n 0, 1) := by decide +kernel
theorem dX7_readsLook_38 : decode cX7_readsLook 38 = .ok (.aload_n 0, 1) := by decide +kernel
theorem dX7_readsLook_39 : decode cX7_readsLook 39 = .ok (.getfield 60, 3) := by decide +kernel
theorem dX7_readsLook_42 : decode cX7_readsLook 42 = .ok (.invokevirtual 63, 3) := by decide +kernel
theorem dX7_readsLook_45 : decode cX7_readsLook 45 = .ok (.bipush 44, 2) := by decide +kernel
theorem dX7_readsLook_47 : decode cX7_readsLook 47 = .ok (.if_icmp .eq 5, 3) := by decide +kernel
theorem dX7_readsLook_50 : decode cX7_readsLook 50 = .ok (.iconst 0, 1) := by decide +kernel
theorem dX7_readsLook_51 : decode cX7_readsLook 51 = .ok (.ireturn, 1) := by decide +kernel
theorem dX7_readsLook_52 : decode cX7_readsLook 52 = .ok (.aload_n 0, 1) := by decide +kernel
theorem dX7_readsLook_53 : decode cX7_readsLook 53 = .ok (.getfield 22, 3) := by decide +kernel
theorem dX7_readsLook_56 : decode cX7_readsLook 56 = .ok (.bipush 96, 2) := by decide +kernel
theorem dX7_readsLook_58 : decode cX7_readsLook 58 = .ok (.iload_n 3, 1) := by decide +kernel
theorem dX7_readsLook_59 : decode cX7_readsLook 59 = .ok (.iadd, 1) := by decide +kernel
theorem dX7_readsLook_60 : decode cX7_readsLook 60 = .ok (.iload 4, 2) := by decide +kernel
theorem dX7_readsLook_62 : decode cX7_readsLook 62 = .ok (.iastore, 1) := by decide +kernel
theorem dX7_readsLook_63 : decode cX7_readsLook 63 = .ok (.aload_n 0, 1) := by decide +kernel
theorem dX7_readsLook_64 : decode cX7_readsLook 64 = .ok (.getfield 60, 3) := by decide +kernel
theorem dX7_readsLook_67 : decode cX7_readsLook 67 = .ok (.iconst 1, 1) := by decide +kernel
theorem dX7_readsLook_68 : decode cX7_readsLook 68 = .ok (.iadd, 1) := by decide +kernel
theorem dX7_readsLook_69 : decode cX7_readsLook 69 = .ok (.istore_n 2, 1) := by decide +kernel
theorem dX7_readsLook_70 : decode cX7_readsLook 70 = .ok (.iinc 3 1, 3) := by decide +kernel
theorem dX7_readsLook_73 : decode cX7_readsLook 73 = .ok (.goto (-69), 3) := by decide +kernel
theorem dX7_readsLook_76 : decode cX7_readsLook 76 = .ok (.iconst 1, 1) := by decide +kernel
theorem dX7_readsLook_77 : decode cX7_readsLook 77 = .ok (.ireturn, 1) := by decide +kernel
theorem dX7_readsMode_0 : decode cX7_readsMode 0 = .ok (.aload_n 0, 1) := by decide +kernel
theorem dX7_readsMode_1 : decode cX7_readsMode 1 = .ok (.iload_n 1, 1) := by decide +kernel
theorem dX7_readsMode_2 : decode cX7_readsMode 2 = .ok (.bipush 98, 2) := by decide +kernel
theorem dX7_readsMode_4 : decode cX7_readsMode 4 = .ok (.bipush 111, 2) := by decide +kernel
theorem dX7_readsMode_6 : decode cX7_readsMode 6 = .ok (.bipush 116, 2) := by decide +kernel
theorem dX7_readsMode_8 : decode cX7_readsMode 8 = .ok (.bipush 104, 2) := by decide +kernel
theorem dX7_readsMode_10 : decode cX7_readsMode 10 = .ok (.invokevirtual 80, 3) := by decide +kernel
theorem dX7_readsMode_13 : decode cX7_readsMode 13 = .ok (.istore_n 2, 1) := by decide +kernel
theorem dX7_readsMode_14 : decode cX7_readsMode 14 = .ok (.aload_n 0, 1) := by decide +kernel
theorem dX7_readsMode_15 : decode cX7_readsMode 15 = .ok (.iload_n 1, 1) := by decide +kernel
theorem dX7_readsMode_16 : decode cX7_readsMode 16 = .ok (.bipush 109, 2) := by decide +kernel
theorem dX7_readsMode_18 : decode cX7_readsMode 18 = .ok (.bipush 111, 2) := by decide +kernel
theorem dX7_readsMode_20 : decode cX7_readsMode 20 = .ok (.bipush 114, 2) := by decide +kernel
theorem dX7_readsMode_22 : decode cX7_readsMode 22 = .ok (.bipush 101, 2) := by decide +kernel
theorem dX7_readsMode_24 : decode cX7_readsMode 24 = .ok (.invokevirtual 80, 3) := by decide +kernel
theorem dX7_readsMode_27 : decode cX7_readsMode 27 = .ok (.istore_n 3, 1) := by decide +kernel
theorem dX7_readsMode_28 : decode cX7_readsMode 28 = .ok (.aload_n 0, 1) := by decide +kernel
theorem dX7_readsMode_29 : decode cX7_readsMode 29 = .ok (.iload_n 1, 1) := by decide +kernel
theorem dX7_readsMode_30 : decode cX7_readsMode 30 = .ok (.bipush 108, 2) := by decide +kernel
theorem dX7_readsMode_32 : decode cX7_readsMode 32 = .ok (.bipush 101, 2) := by decide +kernel
theorem dX7_readsMode_34 : decode cX7_readsMode 34 = .ok (.bipush 115, 2) := by decide +kernel
theorem dX7_readsMode_36 : decode cX7_readsMode 36 = .ok (.bipush 115, 2) := by decide +kernel
theorem dX7_readsMode_38 : decode cX7_readsMode 38 = .ok (.invokevirtual 80, 3) := by decide +kernel
theorem dX7_readsMode_41 : decode cX7_readsMode 41 = .ok (.istore 4, 2) := by decide +kernel
theorem dX7_readsMode_43 : decode cX7_readsMode 43 = .ok (.aload_n 0, 1) := by decide +kernel
theorem dX7_readsMode_44 : decode cX7_readsMode 44 = .ok (.getfield 22, 3) := by decide +kernel
theorem dX7_readsMode_47 : decode cX7_readsMode 47 = .ok (.bipush 101, 2) := by decide +kernel
theorem dX7_readsMode_49 : decode cX7_readsMode 49 = .ok (.iload_n 2, 1) := by decide +kernel
theorem dX7_readsMode_50 : decode cX7_readsMode 50 = .ok (.ifCond .eq 7, 3) := by decide +kernel
theorem dX7_readsMode_53 : decode cX7_readsMode 53 = .ok (.iconst 0, 1) := by decide +kernel
theorem dX7_readsMode_54 : decode cX7_readsMode 54 = .ok (.goto 12, 3) := by decide +kernel
theorem dX7_readsMode_57 : decode cX7_readsMode 57 = .ok (.iload_n 3, 1) := by decide +kernel
theorem dX7_readsMode_58 : decode cX7_readsMode 58 = .ok (.ifCond .eq 7, 3) := by decide +kernel
theorem dX7_readsMode_61 : decode cX7_readsMode 61 = .ok (.iconst 1, 1) := by decide +kernel
theorem dX7_readsMode_62 : decode cX7_readsMode 62 = .ok (.goto 4, 3) := by decide +kernel
theorem dX7_readsMode_65 : decode cX7_readsMode 65 = .ok (.iconst 2, 1) := by decide +kernel
theorem dX7_readsMode_66 : decode cX7_readsMode 66 = .ok (.iastore, 1) := by decide +kernel
theorem dX7_readsMode_67 : decode cX7_readsMode 67 = .ok (.aload_n 0, 1) := by decide +kernel
theorem dX7_readsMode_68 : decode cX7_readsMode 68 = .ok (.iload_n 1, 1) := by decide +kernel
theorem dX7_readsMode_69 : decode cX7_readsMode 69 = .ok (.iconst 4, 1) := by decide +kernel
theorem dX7_readsMode_70 : decode cX7_readsMode 70 = .ok (.iadd, 1) := by decide +kernel
theorem dX7_readsMode_71 : decode cX7_readsMode 71 = .ok (.putfield 60, 3) := by decide +kernel
theorem dX7_readsMode_74 : decode cX7_readsMode 74 = .ok (.iload_n 2, 1) := by decide +kernel
theorem dX7_readsMode_75 : decode cX7_readsMode 75 = .ok (.ifCond .ne 12, 3) := by decide +kernel
theorem dX7_readsMode_78 : decode cX7_readsMode 78 = .ok (.iload_n 3, 1) := by decide +kernel
theorem dX7_readsMode_79 : decode cX7_readsMode 79 = .ok (.ifCond .ne 8, 3) := by decide +kernel
theorem dX7_readsMode_82 : decode cX7_readsMode 82 = .ok (.iload 4, 2) := by decide +kernel
theorem dX7_readsMode_84 : decode cX7_readsMode 84 = .ok (.ifCond .eq 7, 3) := by decide +kernel
theorem dX7_readsMode_87 : decode cX7_readsMode 87 = .ok (.iconst 1, 1) := by decide +kernel
theorem dX7_readsMode_88 : decode cX7_readsMode 88 = .ok (.goto 4, 3) := by decide +kernel
theorem dX7_readsMode_91 : decode cX7_readsMode 91 = .ok (.iconst 0, 1) := by decide +kernel
theorem dX7_readsMode_92 : decode cX7_readsMode 92 = .ok (.ireturn, 1) := by decide +kernel
theorem dX7_readsNoise_0 : decode cX7_readsNoise 0 = .ok (.iload_n 1, 1) := by decide +kernel
theorem dX7_readsNoise_1 : decode cX7_readsNoise 1 = .ok (.istore_n 2, 1) := by decide +kernel
theorem dX7_readsNoise_2 : decode cX7_readsNoise 2 = .ok (.iconst 0, 1) := by decide +kernel
theorem dX7_readsNoise_3 : decode cX7_readsNoise 3 = .ok (.istore_n 3, 1) := by decide +kernel
theorem dX7_readsNoise_4 : decode cX7_readsNoise 4 = .ok (.iconst 0, 1) := by decide +kernel
theorem dX7_readsNoise_5 : decode cX7_readsNoise 5 = .ok (.istore 4, 2) := by decide +kernel
theorem dX7_readsNoise_7 : decode cX7_readsNoise 7 = .ok (.iconst 1, 1) := by decide +kernel
theorem dX7_readsNoise_8 : decode cX7_readsNoise 8 = .ok (.istore 5, 2) := by decide +kernel
theorem dX7_readsNoise_10 : decode cX7_readsNoise 10 = .ok (.iload 5, 2) := by decide +kernel
theorem dX7_readsNoise_12 : decode cX7_readsNoise 12 = .ok (.ifCond .eq 77, 3) := by decide +kernel
theorem dX7_readsNoise_15 : decode cX7_readsNoise 15 = .ok (.aload_n 0, 1) := by decide +kernel
theorem dX7_readsNoise_16 : decode cX7_readsNoise 16 = .ok (.iload_n 2, 1) := by decide +kernel
theorem dX7_readsNoise_17 : decode cX7_readsNoise 17 = .ok (.invokevirtual 67, 3) := by decide +kernel
theorem dX7_readsNoise_20 : decode cX7_readsNoise 20 = .ok (.istore 6, 2) := by decide +kernel
theorem dX7_readsNoise_22 : decode cX7_readsNoise 22 = .ok (.iload 6, 2) := by decide +kernel
theorem dX7_readsNoise_24 : decode cX7_readsNoise 24 = .ok (.iconst 0, 1) := by decide +kernel
theorem dX7_readsNoise_25 : decode cX7_readsNoise 25 = .ok (.bipush 16, 2) := by decide +kernel
theorem dX7_readsNoise_27 : decode cX7_readsNoise 27 = .ok (.invokestatic 76, 3) := by decide +kernel
theorem dX7_readsNoise_30 : decode cX7_readsNoise 30 = .ok (.ifCond .eq 10, 3) := by decide +kernel
theorem dX7_readsNoise_33 : decode cX7_readsNoise 33 = .ok (.iload 4, 2) := by decide +kernel
theorem dX7_readsNoise_35 : decode cX7_readsNoise 35 = .ok (.bipush 8, 2) := by decide +kernel
theorem dX7_readsNoise_37 : decode cX7_readsNoise 37 = .ok (.if_icmp .ne 5, 3) := by decide +kernel
theorem dX7_readsNoise_40 : decode cX7_readsNoise 40 = .ok (.iconst 0, 1) := by decide +kernel
theorem dX7_readsNoise_41 : decode cX7_readsNoise 41 = .ok (.ireturn, 1) := by decide +kernel
theorem dX7_readsNoise_42 : decode cX7_readsNoise 42 = .ok (.aload_n 0, 1) := by decide +kernel
theorem dX7_readsNoise_43 : decode cX7_readsNoise 43 = .ok (.getfield 25, 3) := by decide +kernel
theorem dX7_readsNoise_46 : decode cX7_readsNoise 46 = .ok (.iload 4, 2) := by decide +kernel
theorem dX7_readsNoise_48 : decode cX7_readsNoise 48 = .ok (.iload 6, 2) := by decide +kernel
theorem dX7_readsNoise_50 : decode cX7_readsNoise 50 = .ok (.iastore, 1) := by decide +kernel
theorem dX7_readsNoise_51 : decode cX7_readsNoise 51 = .ok (.iload_n 3, 1) := by decide +kernel
theorem dX7_readsNoise_52 : decode cX7_readsNoise 52 = .ok (.iload 6, 2) := by decide +kernel
theorem dX7_readsNoise_54 : decode cX7_readsNoise 54 = .ok (.iadd, 1) := by decide +kernel
theorem dX7_readsNoise_55 : decode cX7_readsNoise 55 = .ok (.istore_n 3, 1) := by decide +kernel
theorem dX7_readsNoise_56 : decode cX7_readsNoise 56 = .ok (.iinc 4 1, 3) := by decide +kernel
theorem dX7_readsNoise_59 : decode cX7_readsNoise 59 = .ok (.aload_n 0, 1) := by decide +kernel
theorem dX7_readsNoise_60 : decode cX7_readsNoise 60 = .ok (.aload_n 0, 1) := by decide +kernel
theorem dX7_readsNoise_61 : decode cX7_readsNoise 61 = .ok (.getfield 60, 3) := by decide +kernel
theorem dX7_readsNoise_64 : decode cX7_readsNoise 64 = .ok (.invokevirtual 63, 3) := by decide +kernel
theorem dX7_readsNoise_67 : decode cX7_readsNoise 67 = .ok (.bipush 44, 2) := by decide +kernel
theorem dX7_readsNoise_69 : decode cX7_readsNoise 69 = .ok (.if_icmp .ne 7, 3) := by decide +kernel
theorem dX7_readsNoise_72 : decode cX7_readsNoise 72 = .ok (.iconst 1, 1) := by decide +kernel
theorem dX7_readsNoise_73 : decode cX7_readsNoise 73 = .ok (.goto 4, 3) := by decide +kernel
theorem dX7_readsNoise_76 : decode cX7_readsNoise 76 = .ok (.iconst 0, 1) := by decide +kernel
theorem dX7_readsNoise_77 : decode cX7_readsNoise 77 = .ok (.istore 5, 2) := by decide +kernel
theorem dX7_readsNoise_79 : decode cX7_readsNoise 79 = .ok (.aload_n 0, 1) := by decide +kernel
theorem dX7_readsNoise_80 : decode cX7_readsNoise 80 = .ok (.getfield 60, 3) := by decide +kernel
theorem dX7_readsNoise_83 : decode cX7_readsNoise 83 = .ok (.iconst 1, 1) := by decide +kernel
theorem dX7_readsNoise_84 : decode cX7_readsNoise 84 = .ok (.iadd, 1) := by decide +kernel
theorem dX7_readsNoise_85 : decode cX7_readsNoise 85 = .ok (.istore_n 2, 1) := by decide +kernel
theorem dX7_readsNoise_86 : decode cX7_readsNoise 86 = .ok (.goto (-76), 3) := by decide +kernel
theorem dX7_readsNoise_89 : decode cX7_readsNoise 89 = .ok (.aload_n 0, 1) := by decide +kernel
theorem dX7_readsNoise_90 : decode cX7_readsNoise 90 = .ok (.iload 4, 2) := by decide +kernel
theorem dX7_readsNoise_92 : decode cX7_readsNoise 92 = .ok (.putfield 45, 3) := by decide +kernel
theorem dX7_readsNoise_95 : decode cX7_readsNoise 95 = .ok (.iload 4, 2) := by decide +kernel
theorem dX7_readsNoise_97 : decode cX7_readsNoise 97 = .ok (.iconst 1, 1) := by decide +kernel
theorem dX7_readsNoise_98 : decode cX7_readsNoise 98 = .ok (.if_icmp .le 17, 3) := by decide +kernel
theorem dX7_readsNoise_101 : decode cX7_readsNoise 101 = .ok (.iload_n 3, 1) := by decide +kernel
theorem dX7_readsNoise_102 : decode cX7_readsNoise 102 = .ok (.iconst 1, 1) := by decide +kernel
theorem dX7_readsNoise_103 : decode cX7_readsNoise 103 = .ok (.bipush 16, 2) := by decide +kernel
theorem dX7_readsNoise_105 : decode cX7_readsNoise 105 = .ok (.invokestatic 76, 3) := by decide +kernel
theorem dX7_readsNoise_108 : decode cX7_readsNoise 108 = .ok (.ifCond .eq 7, 3) := by decide +kernel
theorem dX7_readsNoise_111 : decode cX7_readsNoise 111 = .ok (.iconst 1, 1) := by decide +kernel
theorem dX7_readsNoise_112 : decode cX7_readsNoise 112 = .ok (.goto 4, 3) := by decide +kernel
theorem dX7_readsNoise_115 : decode cX7_readsNoise 115 = .ok (.iconst 0, 1) := by decide +kernel
theorem dX7_readsNoise_116 : decode cX7_readsNoise 116 = .ok (.ireturn, 1) := by decide +kernel
theorem dX7_readsItem_0 : decode cX7_readsItem 0 = .ok (.aload_n 0, 1) := by decide +kernel
theorem dX7_readsItem_1 : decode cX7_readsItem 1 = .ok (.iload_n 1, 1) := by decide +kernel
theorem dX7_readsItem_2 : decode cX7_readsItem 2 = .ok (.iconst 4, 1) := by decide +kernel
theorem dX7_readsItem_3 : decode cX7_readsItem 3 = .ok (.iadd, 1) := by decide +kernel
theorem dX7_readsItem_4 : decode cX7_readsItem 4 = .ok (.invokevirtual 63, 3) := by decide +kernel
theorem dX7_readsItem_7 : decode cX7_readsItem 7 = .ok (.bipush 32, 2) := by decide +kernel
theorem dX7_readsItem_9 : decode cX7_readsItem 9 = .ok (.if_icmp .eq 5, 3) := by decide +kernel
theorem dX7_readsItem_12 : decode cX7_readsItem 12 = .ok (.iconst 0, 1) := by decide +kernel
theorem dX7_readsItem_13 : decode cX7_readsItem 13 = .ok (.ireturn, 1) := by decide +kernel
theorem dX7_readsItem_14 : decode cX7_readsItem 14 = .ok (.aload_n 0, 1) := by decide +kernel
theorem dX7_readsItem_15 : decode cX7_readsItem 15 = .ok (.iload_n 1, 1) := by decide +kernel
theorem dX7_readsItem_16 : decode cX7_readsItem 16 = .ok (.bipush 99, 2) := by decide +kernel
theorem dX7_readsItem_18 : decode cX7_readsItem 18 = .ok (.bipush 101, 2) := by decide +kernel
theorem dX7_readsItem_20 : decode cX7_readsItem 20 = .ok (.bipush 108, 2) := by decide +kernel
theorem dX7_readsItem_22 : decode cX7_readsItem 22 = .ok (.bipush 108, 2) := by decide +kernel
theorem dX7_readsItem_24 : decode cX7_readsItem 24 = .ok (.invokevirtual 80, 3) := by decide +kernel
theorem dX7_readsItem_27 : decode cX7_readsItem 27 = .ok (.ifCond .eq 11, 3) := by decide +kernel
theorem dX7_readsItem_30 : decode cX7_readsItem 30 = .ok (.aload_n 0, 1) := by decide +kernel
theorem dX7_readsItem_31 : decode cX7_readsItem 31 = .ok (.iload_n 1, 1) := by decide +kernel
theorem dX7_readsItem_32 : decode cX7_readsItem 32 = .ok (.iconst 5, 1) := by decide +kernel
theorem dX7_readsItem_33 : decode cX7_readsItem 33 = .ok (.iadd, 1) := by decide +kernel
theorem dX7_readsItem_34 : decode cX7_readsItem 34 = .ok (.invokevirtual 84, 3) := by decide +kernel
theorem dX7_readsItem_37 : decode cX7_readsItem 37 = .ok (.ireturn, 1) := by decide +kernel
theorem dX7_readsItem_38 : decode cX7_readsItem 38 = .ok (.aload_n 0, 1) := by decide +kernel
theorem dX7_readsItem_39 : decode cX7_readsItem 39 = .ok (.iload_n 1, 1) := by decide +kernel
theorem dX7_readsItem_40 : decode cX7_readsItem 40 = .ok (.bipush 108, 2) := by decide +kernel
theorem dX7_readsItem_42 : decode cX7_readsItem 42 = .ok (.bipush 111, 2) := by decide +kernel
theorem dX7_readsItem_44 : decode cX7_readsItem 44 = .ok (.bipush 111, 2) := by decide +kernel
theorem dX7_readsItem_46 : decode cX7_readsItem 46 = .ok (.bipush 107, 2) := by decide +kernel
theorem dX7_readsItem_48 : decode cX7_readsItem 48 = .ok (.invokevirtual 80, 3) := by decide +kernel
theorem dX7_readsItem_51 : decode cX7_readsItem 51 = .ok (.ifCond .eq 11, 3) := by decide +kernel
theorem dX7_readsItem_54 : decode cX7_readsItem 54 = .ok (.aload_n 0, 1) := by decide +kernel
theorem dX7_readsItem_55 : decode cX7_readsItem 55 = .ok (.iload_n 1, 1) := by decide +kernel
theorem dX7_readsItem_56 : decode cX7_readsItem 56 = .ok (.iconst 5, 1) := by decide +kernel
theorem dX7_readsItem_57 : decode cX7_readsItem 57 = .ok (.iadd, 1) := by decide +kernel
theorem dX7_readsItem_58 : decode cX7_readsItem 58 = .ok (.invokevirtual 88, 3) := by decide +kernel
theorem dX7_readsItem_61 : decode cX7_readsItem 61 = .ok (.ireturn, 1) := by decide +kernel
theorem dX7_readsItem_62 : decode cX7_readsItem 62 = .ok (.aload_n 0, 1) := by decide +kernel
theorem dX7_readsItem_63 : decode cX7_readsItem 63 = .ok (.iload_n 1, 1) := by decide +kernel
theorem dX7_readsItem_64 : decode cX7_readsItem 64 = .ok (.bipush 109, 2) := by decide +kernel
theorem dX7_readsItem_66 : decode cX7_readsItem 66 = .ok (.bipush 111, 2) := by decide +kernel
theorem dX7_readsItem_68 : decode cX7_readsItem 68 = .ok (.bipush 100, 2) := by decide +kernel
theorem dX7_readsItem_70 : decode cX7_readsItem 70 = .ok (.bipush 101, 2) := by decide +kernel
theorem dX7_readsItem_72 : decode cX7_readsItem 72 = .ok (.invokevirtual 80, 3) := by decide +kernel
theorem dX7_readsItem_75 : decode cX7_readsItem 75 = .ok (.ifCond .eq 11, 3) := by decide +kernel
theorem dX7_readsItem_78 : decode cX7_readsItem 78 = .ok (.aload_n 0, 1) := by decide +kernel
theorem dX7_readsItem_79 : decode cX7_readsItem 79 = .ok (.iload_n 1, 1) := by decide +kernel
theorem dX7_readsItem_80 : decode cX7_readsItem 80 = .ok (.iconst 5, 1) := by decide +kernel
theorem dX7_readsItem_81 : decode cX7_readsItem 81 = .ok (.iadd, 1) := by decide +kernel
theorem dX7_readsItem_82 : decode cX7_readsItem 82 = .ok (.invokevirtual 91, 3) := by decide +kernel
theorem dX7_readsItem_85 : decode cX7_readsItem 85 = .ok (.ireturn, 1) := by decide +kernel
theorem dX7_readsItem_86 : decode cX7_readsItem 86 = .ok (.aload_n 0, 1) := by decide +kernel
theorem dX7_readsItem_87 : decode cX7_readsItem 87 = .ok (.iload_n 1, 1) := by decide +kernel
theorem dX7_readsItem_88 : decode cX7_readsItem 88 = .ok (.bipush 100, 2) := by decide +kernel
theorem dX7_readsItem_90 : decode cX7_readsItem 90 = .ok (.bipush 105, 2) := by decide +kernel
theorem dX7_readsItem_92 : decode cX7_readsItem 92 = .ok (.bipush 99, 2) := by decide +kernel
theorem dX7_readsItem_94 : decode cX7_readsItem 94 = .ok (.bipush 101, 2) := by decide +kernel
theorem dX7_readsItem_96 : decode cX7_readsItem 96 = .ok (.invokevirtual 80, 3) := by decide +kernel
theorem dX7_readsItem_99 : decode cX7_readsItem 99 = .ok (.ifCond .eq 17, 3) := by decide +kernel
theorem dX7_readsItem_102 : decode cX7_readsItem 102 = .ok (.aload_n 0, 1) := by decide +kernel
theorem dX7_readsItem_103 : decode cX7_readsItem 103 = .ok (.iload_n 1, 1) := by decide +kernel
theorem dX7_readsItem_104 : decode cX7_readsItem 104 = .ok (.iconst 5, 1) := by decide +kernel
theorem dX7_readsItem_105 : decode cX7_readsItem 105 = .ok (.iadd, 1) := by decide +kernel
theorem dX7_readsItem_106 : decode cX7_readsItem 106 = .ok (.invokevirtual 94, 3) := by decide +kernel
theorem dX7_readsItem_109 : decode cX7_readsItem 109 = .ok (.ifCond .eq 7, 3) := by decide +kernel
theorem dX7_readsItem_112 : decode cX7_readsItem 112 = .ok (.iconst 1, 1) := by decide +kernel
theorem dX7_readsItem_113 : decode cX7_readsItem 113 = .ok (.goto 4, 3) := by decide +kernel
theorem dX7_readsItem_116 : decode cX7_readsItem 116 = .ok (.iconst 0, 1) := by decide +kernel
theorem dX7_readsItem_117 : decode cX7_readsItem 117 = .ok (.ireturn, 1) := by decide +kernel
theorem dX7_reads_0 : decode cX7_reads 0 = .ok (.aload_n 0, 1) := by decide +kernel
theorem dX7_reads_1 : decode cX7_reads 1 = .ok (.invokevirtual 31, 3) := by decide +kernel
theorem dX7_reads_4 : decode cX7_reads 4 = .ok (.iconst 0, 1) := by decide +kernel
theorem dX7_reads_5 : decode cX7_reads 5 = .ok (.istore_n 1, 1) := by decide +kernel
theorem dX7_reads_6 : decode cX7_reads 6 = .ok (.iload_n 1, 1) := by decide +kernel
theorem dX7_reads_7 : decode cX7_reads 7 = .ok (.aload_n 0, 1) := by decide +kernel
theorem dX7_reads_8 : decode cX7_reads 8 = .ok (.getfield 57, 3) := by decide +kernel
theorem dX7_reads_11 : decode cX7_reads 11 = .ok (.if_icmp .ge 36, 3) := by decide +kernel
theorem dX7_reads_14 : decode cX7_reads 14 = .ok (.aload_n 0, 1) := by decide +kernel
theorem dX7_reads_15 : decode cX7_reads 15 = .ok (.iload_n 1, 1) := by decide +kernel
theorem dX7_reads_16 : decode cX7_reads 16 = .ok (.invokevirtual 97, 3) := by decide +kernel
theorem dX7_reads_19 : decode cX7_reads 19 = .ok (.ifCond .eq 16, 3) := by decide +kernel
theorem dX7_reads_22 : decode cX7_reads 22 = .ok (.aload_n 0, 1) := by decide +kernel
theorem dX7_reads_23 : decode cX7_reads 23 = .ok (.aload_n 0, 1) := by decide +kernel
theorem dX7_reads_24 : decode cX7_reads 24 = .ok (.getfield 60, 3) := by decide +kernel
theorem dX7_reads_27 : decode cX7_reads 27 = .ok (.invokevirtual 63, 3) := by decide +kernel
theorem dX7_reads_30 : decode cX7_reads 30 = .ok (.bipush 59, 2) := by decide +kernel
theorem dX7_reads_32 : decode cX7_reads 32 = .ok (.if_icmp .eq 5, 3) := by decide +kernel
theorem dX7_reads_35 : decode cX7_reads 35 = .ok (.iload_n 1, 1) := by decide +kernel
theorem dX7_reads_36 : decode cX7_reads 36 = .ok (.ireturn, 1) := by decide +kernel
theorem dX7_reads_37 : decode cX7_reads 37 = .ok (.aload_n 0, 1) := by decide +kernel
theorem dX7_reads_38 : decode cX7_reads 38 = .ok (.getfield 60, 3) := by decide +kernel
theorem dX7_reads_41 : decode cX7_reads 41 = .ok (.iconst 1, 1) := by decide +kernel
theorem dX7_reads_42 : decode cX7_reads 42 = .ok (.iadd, 1) := by decide +kernel
theorem dX7_reads_43 : decode cX7_reads 43 = .ok (.istore_n 1, 1) := by decide +kernel
theorem dX7_reads_44 : decode cX7_reads 44 = .ok (.goto (-38), 3) := by decide +kernel
theorem dX7_reads_47 : decode cX7_reads 47 = .ok (.bipush (-4), 2) := by decide +kernel
theorem dX7_reads_49 : decode cX7_reads 49 = .ok (.ireturn, 1) := by decide +kernel
theorem dX7_write_0 : decode cX7_write 0 = .ok (.iload_n 1, 1) := by decide +kernel
theorem dX7_write_1 : decode cX7_write 1 = .ok (.bipush 32, 2) := by decide +kernel
theorem dX7_write_3 : decode cX7_write 3 = .ok (.if_icmp .lt 9, 3) := by decide +kernel
theorem dX7_write_6 : decode cX7_write 6 = .ok (.iload_n 1, 1) := by decide +kernel
theorem dX7_write_7 : decode cX7_write 7 = .ok (.bipush 126, 2) := by decide +kernel
theorem dX7_write_9 : decode cX7_write 9 = .ok (.if_icmp .le 5, 3) := by decide +kernel
theorem dX7_write_12 : decode cX7_write 12 = .ok (.iconst (-1), 1) := by decide +kernel
theorem dX7_write_13 : decode cX7_write 13 = .ok (.ireturn, 1) := by decide +kernel
theorem dX7_write_14 : decode cX7_write 14 = .ok (.aload_n 0, 1) := by decide +kernel
theorem dX7_write_15 : decode cX7_write 15 = .ok (.getfield 57, 3) := by decide +kernel
theorem dX7_write_18 : decode cX7_write 18 = .ok (.sipush 200, 3) := by decide +kernel
theorem dX7_write_21 : decode cX7_write 21 = .ok (.if_icmp .ne 6, 3) := by decide +kernel
theorem dX7_write_24 : decode cX7_write 24 = .ok (.bipush (-3), 2) := by decide +kernel
theorem dX7_write_26 : decode cX7_write 26 = .ok (.ireturn, 1) := by decide +kernel
theorem dX7_write_27 : decode cX7_write 27 = .ok (.aload_n 0, 1) := by decide +kernel
theorem dX7_write_28 : decode cX7_write 28 = .ok (.getfield 7, 3) := by decide +kernel
theorem dX7_write_31 : decode cX7_write 31 = .ok (.aload_n 0, 1) := by decide +kernel
theorem dX7_write_32 : decode cX7_write 32 = .ok (.getfield 57, 3) := by decide +kernel
theorem dX7_write_35 : decode cX7_write 35 = .ok (.iload_n 1, 1) := by decide +kernel
theorem dX7_write_36 : decode cX7_write 36 = .ok (.iastore, 1) := by decide +kernel
theorem dX7_write_37 : decode cX7_write 37 = .ok (.aload_n 0, 1) := by decide +kernel
theorem dX7_write_38 : decode cX7_write 38 = .ok (.dup, 1) := by decide +kernel
theorem dX7_write_39 : decode cX7_write 39 = .ok (.getfield 57, 3) := by decide +kernel
theorem dX7_write_42 : decode cX7_write 42 = .ok (.iconst 1, 1) := by decide +kernel
theorem dX7_write_43 : decode cX7_write 43 = .ok (.iadd, 1) := by decide +kernel
theorem dX7_write_44 : decode cX7_write 44 = .ok (.putfield 57, 3) := by decide +kernel
theorem dX7_write_47 : decode cX7_write 47 = .ok (.aload_n 0, 1) := by decide +kernel
theorem dX7_write_48 : decode cX7_write 48 = .ok (.getfield 57, 3) := by decide +kernel
theorem dX7_write_51 : decode cX7_write 51 = .ok (.ireturn, 1) := by decide +kernel
theorem dX7_wipe_0 : decode cX7_wipe 0 = .ok (.aload_n 0, 1) := by decide +kernel
theorem dX7_wipe_1 : decode cX7_wipe 1 = .ok (.getfield 57, 3) := by decide +kernel
theorem dX7_wipe_4 : decode cX7_wipe 4 = .ok (.istore_n 1, 1) := by decide +kernel
theorem dX7_wipe_5 : decode cX7_wipe 5 = .ok (.aload_n 0, 1) := by decide +kernel
theorem dX7_wipe_6 : decode cX7_wipe 6 = .ok (.iconst 0, 1) := by decide +kernel
theorem dX7_wipe_7 : decode cX7_wipe 7 = .ok (.putfield 57, 3) := by decide +kernel
theorem dX7_wipe_10 : decode cX7_wipe 10 = .ok (.iload_n 1, 1) := by decide +kernel
theorem dX7_wipe_11 : decode cX7_wipe 11 = .ok (.ireturn, 1) := by decide +kernel
theorem dX7_fault_0 : decode cX7_fault 0 = .ok (.aload_n 0, 1) := by decide +kernel
theorem dX7_fault_1 : decode cX7_fault 1 = .ok (.invokevirtual 100, 3) := by decide +kernel
theorem dX7_fault_4 : decode cX7_fault 4 = .ok (.ireturn, 1) := by decide +kernel
theorem dX7_lay_0 : decode cX7_lay 0 = .ok (.aload_n 0, 1) := by decide +kernel
theorem dX7_lay_1 : decode cX7_lay 1 = .ok (.invokevirtual 100, 3) := by decide +kernel
theorem dX7_lay_4 : decode cX7_lay 4 = .ok (.bipush (-4), 2) := by decide +kernel
theorem dX7_lay_6 : decode cX7_lay 6 = .ok (.if_icmp .ne 10, 3) := by decide +kernel
theorem dX7_lay_9 : decode cX7_lay 9 = .ok (.aload_n 0, 1) := by decide +kernel
theorem dX7_lay_10 : decode cX7_lay 10 = .ok (.getfield 41, 3) := by decide +kernel
theorem dX7_lay_13 : decode cX7_lay 13 = .ok (.ifCond .ne 6, 3) := by decide +kernel
theorem dX7_lay_16 : decode cX7_lay 16 = .ok (.bipush (-2), 2) := by decide +kernel
theorem dX7_lay_18 : decode cX7_lay 18 = .ok (.ireturn, 1) := by decide +kernel
theorem dX7_lay_19 : decode cX7_lay 19 = .ok (.aload_n 0, 1) := by decide +kernel
theorem dX7_lay_20 : decode cX7_lay 20 = .ok (.invokevirtual 38, 3) := by decide +kernel
theorem dX7_lay_23 : decode cX7_lay 23 = .ok (.aload_n 0, 1) := by decide +kernel
theorem dX7_lay_24 : decode cX7_lay 24 = .ok (.getfield 48, 3) := by decide +kernel
theorem dX7_lay_27 : decode cX7_lay 27 = .ok (.ireturn, 1) := by decide +kernel
theorem dX7_least_0 : decode cX7_least 0 = .ok (.iload_n 0, 1) := by decide +kernel
theorem dX7_least_1 : decode cX7_least 1 = .ok (.iconst 1, 1) := by decide +kernel
theorem dX7_least_2 : decode cX7_least 2 = .ok (.if_icmp .ne 7, 3) := by decide +kernel
theorem dX7_least_5 : decode cX7_least 5 = .ok (.iconst 0, 1) := by decide +kernel
theorem dX7_least_6 : decode cX7_least 6 = .ok (.goto 4, 3) := by decide +kernel
theorem dX7_least_9 : decode cX7_least 9 = .ok (.iconst 1, 1) := by decide +kernel
theorem dX7_least_10 : decode cX7_least 10 = .ok (.ireturn, 1) := by decide +kernel
theorem dX7_most_0 : decode cX7_most 0 = .ok (.iload_n 0, 1) := by decide +kernel
theorem dX7_most_1 : decode cX7_most 1 = .ok (.ifCond .ne 8, 3) := by decide +kernel
theorem dX7_most_4 : decode cX7_most 4 = .ok (.bipush 6, 2) := by decide +kernel
theorem dX7_most_6 : decode cX7_most 6 = .ok (.goto 24, 3) := by decide +kernel
theorem dX7_most_9 : decode cX7_most 9 = .ok (.iload_n 0, 1) := by decide +kernel
theorem dX7_most_10 : decode cX7_most 10 = .ok (.iconst 1, 1) := by decide +kernel
theorem dX7_most_11 : decode cX7_most 11 = .ok (.if_icmp .ne 7, 3) := by decide +kernel
theorem dX7_most_14 : decode cX7_most 14 = .ok (.iconst 3, 1) := by decide +kernel
theorem dX7_most_15 : decode cX7_most 15 = .ok (.goto 15, 3) := by decide +kernel
theorem dX7_most_18 : decode cX7_most 18 = .ok (.iload_n 0, 1) := by decide +kernel
theorem dX7_most_19 : decode cX7_most 19 = .ok (.iconst 2, 1) := by decide +kernel
theorem dX7_most_20 : decode cX7_most 20 = .ok (.if_icmp .ne 8, 3) := by decide +kernel
theorem dX7_most_23 : decode cX7_most 23 = .ok (.bipush 12, 2) := by decide +kernel
theorem dX7_most_25 : decode cX7_most 25 = .ok (.goto 5, 3) := by decide +kernel
theorem dX7_most_28 : decode cX7_most 28 = .ok (.bipush 40, 2) := by decide +kernel
theorem dX7_most_30 : decode cX7_most 30 = .ok (.ireturn, 1) := by decide +kernel
theorem dX7_keeps_0 : decode cX7_keeps 0 = .ok (.aload_n 0, 1) := by decide +kernel
theorem dX7_keeps_1 : decode cX7_keeps 1 = .ok (.getfield 54, 3) := by decide +kernel
theorem dX7_keeps_4 : decode cX7_keeps 4 = .ok (.bipush 6, 2) := by decide +kernel
theorem dX7_keeps_6 : decode cX7_keeps 6 = .ok (.if_icmp .ne 43, 3) := by decide +kernel
theorem dX7_keeps_9 : decode cX7_keeps 9 = .ok (.iconst 0, 1) := by decide +kernel
theorem dX7_keeps_10 : decode cX7_keeps 10 = .ok (.istore_n 1, 1) := by decide +kernel
theorem dX7_keeps_11 : decode cX7_keeps 11 = .ok (.iload_n 1, 1) := by decide +kernel
theorem dX7_keeps_12 : decode cX7_keeps 12 = .ok (.sipush 510, 3) := by decide +kernel
theorem dX7_keeps_15 : decode cX7_keeps 15 = .ok (.if_icmp .ge 24, 3) := by decide +kernel
theorem dX7_keeps_18 : decode cX7_keeps 18 = .ok (.aload_n 0, 1) := by decide +kernel
theorem dX7_keeps_19 : decode cX7_keeps 19 = .ok (.getfield 19, 3) := by decide +kernel
theorem dX7_keeps_22 : decode cX7_keeps 22 = .ok (.iload_n 1, 1) := by decide +kernel
theorem dX7_keeps_23 : decode cX7_keeps 23 = .ok (.aload_n 0, 1) := by decide +kernel
theorem dX7_keeps_24 : decode cX7_keeps 24 = .ok (.getfield 19, 3) := by decide +kernel
theorem dX7_keeps_27 : decode cX7_keeps 27 = .ok (.iload_n 1, 1) := by decide +kernel
theorem dX7_keeps_28 : decode cX7_keeps 28 = .ok (.bipush 102, 2) := by decide +kernel
theorem dX7_keeps_30 : decode cX7_keeps 30 = .ok (.iadd, 1) := by decide +kernel
theorem dX7_keeps_31 : decode cX7_keeps 31 = .ok (.iaload, 1) := by decide +kernel
theorem dX7_keeps_32 : decode cX7_keeps 32 = .ok (.iastore, 1) := by decide +kernel
theorem dX7_keeps_33 : decode cX7_keeps 33 = .ok (.iinc 1 1, 3) := by decide +kernel
theorem dX7_keeps_36 : decode cX7_keeps 36 = .ok (.goto (-25), 3) := by decide +kernel
theorem dX7_keeps_39 : decode cX7_keeps 39 = .ok (.aload_n 0, 1) := by decide +kernel
theorem dX7_keeps_40 : decode cX7_keeps 40 = .ok (.dup, 1) := by decide +kernel
theorem dX7_keeps_41 : decode cX7_keeps 41 = .ok (.getfield 54, 3) := by decide +kernel
theorem dX7_keeps_44 : decode cX7_keeps 44 = .ok (.iconst 1, 1) := by decide +kernel
theorem dX7_keeps_45 : decode cX7_keeps 45 = .ok (.isub, 1) := by decide +kernel
theorem dX7_keeps_46 : decode cX7_keeps 46 = .ok (.putfield 54, 3) := by decide +kernel
theorem dX7_keeps_49 : decode cX7_keeps 49 = .ok (.iconst 0, 1) := by decide +kernel
theorem dX7_keeps_50 : decode cX7_keeps 50 = .ok (.istore_n 1, 1) := by decide +kernel
theorem dX7_keeps_51 : decode cX7_keeps 51 = .ok (.iload_n 1, 1) := by decide +kernel
theorem dX7_keeps_52 : decode cX7_keeps 52 = .ok (.bipush 102, 2) := by decide +kernel
theorem dX7_keeps_54 : decode cX7_keeps 54 = .ok (.if_icmp .ge 29, 3) := by decide +kernel
theorem dX7_keeps_57 : decode cX7_keeps 57 = .ok (.aload_n 0, 1) := by decide +kernel
theorem dX7_keeps_58 : decode cX7_keeps 58 = .ok (.getfield 19, 3) := by decide +kernel
theorem dX7_keeps_61 : decode cX7_keeps 61 = .ok (.bipush 102, 2) := by decide +kernel
theorem dX7_keeps_63 : decode cX7_keeps 63 = .ok (.aload_n 0, 1) := by decide +kernel
theorem dX7_keeps_64 : decode cX7_keeps 64 = .ok (.getfield 54, 3) := by decide +kernel
theorem dX7_keeps_67 : decode cX7_keeps 67 = .ok (.imul, 1) := by decide +kernel
theorem dX7_keeps_68 : decode cX7_keeps 68 = .ok (.iload_n 1, 1) := by decide +kernel
theorem dX7_keeps_69 : decode cX7_keeps 69 = .ok (.iadd, 1) := by decide +kernel
theorem dX7_keeps_70 : decode cX7_keeps 70 = .ok (.aload_n 0, 1) := by decide +kernel
theorem dX7_keeps_71 : decode cX7_keeps 71 = .ok (.getfield 16, 3) := by decide +kernel
theorem dX7_keeps_74 : decode cX7_keeps 74 = .ok (.iload_n 1, 1) := by decide +kernel
theorem dX7_keeps_75 : decode cX7_keeps 75 = .ok (.iaload, 1) := by decide +kernel
theorem dX7_keeps_76 : decode cX7_keeps 76 = .ok (.iastore, 1) := by decide +kernel
theorem dX7_keeps_77 : decode cX7_keeps 77 = .ok (.iinc 1 1, 3) := by decide +kernel
theorem dX7_keeps_80 : decode cX7_keeps 80 = .ok (.goto (-29), 3) := by decide +kernel
theorem dX7_keeps_83 : decode cX7_keeps 83 = .ok (.aload_n 0, 1) := by decide +kernel
theorem dX7_keeps_84 : decode cX7_keeps 84 = .ok (.dup, 1) := by decide +kernel
theorem dX7_keeps_85 : decode cX7_keeps 85 = .ok (.getfield 54, 3) := by decide +kernel
theorem dX7_keeps_88 : decode cX7_keeps 88 = .ok (.iconst 1, 1) := by decide +kernel
theorem dX7_keeps_89 : decode cX7_keeps 89 = .ok (.iadd, 1) := by decide +kernel
theorem dX7_keeps_90 : decode cX7_keeps 90 = .ok (.putfield 54, 3) := by decide +kernel
theorem dX7_keeps_93 : decode cX7_keeps 93 = .ok (.return_, 1) := by decide +kernel
theorem dX7_becomes_0 : decode cX7_becomes 0 = .ok (.aload_n 0, 1) := by decide +kernel
theorem dX7_becomes_1 : decode cX7_becomes 1 = .ok (.getfield 16, 3) := by decide +kernel
theorem dX7_becomes_4 : decode cX7_becomes 4 = .ok (.iload_n 1, 1) := by decide +kernel
theorem dX7_becomes_5 : decode cX7_becomes 5 = .ok (.iaload, 1) := by decide +kernel
theorem dX7_becomes_6 : decode cX7_becomes 6 = .ok (.istore_n 3, 1) := by decide +kernel
theorem dX7_becomes_7 : decode cX7_becomes 7 = .ok (.iload_n 3, 1) := by decide +kernel
theorem dX7_becomes_8 : decode cX7_becomes 8 = .ok (.iload_n 2, 1) := by decide +kernel
theorem dX7_becomes_9 : decode cX7_becomes 9 = .ok (.if_icmp .ne 6, 3) := by decide +kernel
theorem dX7_becomes_12 : decode cX7_becomes 12 = .ok (.bipush (-2), 2) := by decide +kernel
theorem dX7_becomes_14 : decode cX7_becomes 14 = .ok (.ireturn, 1) := by decide +kernel
theorem dX7_becomes_15 : decode cX7_becomes 15 = .ok (.aload_n 0, 1) := by decide +kernel
theorem dX7_becomes_16 : decode cX7_becomes 16 = .ok (.invokevirtual 104, 3) := by decide +kernel
theorem dX7_becomes_19 : decode cX7_becomes 19 = .ok (.aload_n 0, 1) := by decide +kernel
theorem dX7_becomes_20 : decode cX7_becomes 20 = .ok (.getfield 16, 3) := by decide +kernel
theorem dX7_becomes_23 : decode cX7_becomes 23 = .ok (.iload_n 1, 1) := by decide +kernel
theorem dX7_becomes_24 : decode cX7_becomes 24 = .ok (.iload_n 2, 1) := by decide +kernel
theorem dX7_becomes_25 : decode cX7_becomes 25 = .ok (.iastore, 1) := by decide +kernel
theorem dX7_becomes_26 : decode cX7_becomes 26 = .ok (.iload_n 3, 1) := by decide +kernel
theorem dX7_becomes_27 : decode cX7_becomes 27 = .ok (.ireturn, 1) := by decide +kernel
theorem dX7_isCell_0 : decode cX7_isCell 0 = .ok (.iload_n 1, 1) := by decide +kernel
theorem dX7_isCell_1 : decode cX7_isCell 1 = .ok (.iconst 0, 1) := by decide +kernel
theorem dX7_isCell_2 : decode cX7_isCell 2 = .ok (.aload_n 0, 1) := by decide +kernel
theorem dX7_isCell_3 : decode cX7_isCell 3 = .ok (.getfield 48, 3) := by decide +kernel
theorem dX7_isCell_6 : decode cX7_isCell 6 = .ok (.iconst 1, 1) := by decide +kernel
theorem dX7_isCell_7 : decode cX7_isCell 7 = .ok (.isub, 1) := by decide +kernel
theorem dX7_isCell_8 : decode cX7_isCell 8 = .ok (.invokestatic 76, 3) := by decide +kernel
theorem dX7_isCell_11 : decode cX7_isCell 11 = .ok (.ireturn, 1) := by decide +kernel
theorem dX7_power_0 : decode cX7_power 0 = .ok (.aload_n 0, 1) := by decide +kernel
theorem dX7_power_1 : decode cX7_power 1 = .ok (.iload_n 1, 1) := by decide +kernel
theorem dX7_power_2 : decode cX7_power 2 = .ok (.invokevirtual 107, 3) := by decide +kernel
theorem dX7_power_5 : decode cX7_power 5 = .ok (.ifCond .eq 22, 3) := by decide +kernel
theorem dX7_power_8 : decode cX7_power 8 = .ok (.iload_n 2, 1) := by decide +kernel
theorem dX7_power_9 : decode cX7_power 9 = .ok (.iconst 0, 1) := by decide +kernel
theorem dX7_power_10 : decode cX7_power 10 = .ok (.bipush 99, 2) := by decide +kernel
theorem dX7_power_12 : decode cX7_power 12 = .ok (.invokestatic 76, 3) := by decide +kernel
theorem dX7_power_15 : decode cX7_power 15 = .ok (.ifCond .eq 12, 3) := by decide +kernel
theorem dX7_power_18 : decode cX7_power 18 = .ok (.aload_n 0, 1) := by decide +kernel
theorem dX7_power_19 : decode cX7_power 19 = .ok (.iload_n 1, 1) := by decide +kernel
theorem dX7_power_20 : decode cX7_power 20 = .ok (.iload_n 2, 1) := by decide +kernel
theorem dX7_power_21 : decode cX7_power 21 = .ok (.invokevirtual 110, 3) := by decide +kernel
theorem dX7_power_24 : decode cX7_power 24 = .ok (.goto 4, 3) := by decide +kernel
theorem dX7_power_27 : decode cX7_power 27 = .ok (.iconst (-1), 1) := by decide +kernel
theorem dX7_power_28 : decode cX7_power 28 = .ok (.ireturn, 1) := by decide +kernel
theorem dX7_leftOut_0 : decode cX7_leftOut 0 = .ok (.iconst 0, 1) := by decide +kernel
theorem dX7_leftOut_1 : decode cX7_leftOut 1 = .ok (.istore_n 1, 1) := by decide +kernel
theorem dX7_leftOut_2 : decode cX7_leftOut 2 = .ok (.iconst 0, 1) := by decide +kernel
theorem dX7_leftOut_3 : decode cX7_leftOut 3 = .ok (.istore_n 2, 1) := by decide +kernel
theorem dX7_leftOut_4 : decode cX7_leftOut 4 = .ok (.iload_n 2, 1) := by decide +kernel
theorem dX7_leftOut_5 : decode cX7_leftOut 5 = .ok (.aload_n 0, 1) := by decide +kernel
theorem dX7_leftOut_6 : decode cX7_leftOut 6 = .ok (.getfield 48, 3) := by decide +kernel
theorem dX7_leftOut_9 : decode cX7_leftOut 9 = .ok (.if_icmp .ge 21, 3) := by decide +kernel
theorem dX7_leftOut_12 : decode cX7_leftOut 12 = .ok (.iload_n 1, 1) := by decide +kernel
theorem dX7_leftOut_13 : decode cX7_leftOut 13 = .ok (.aload_n 0, 1) := by decide +kernel
theorem dX7_leftOut_14 : decode cX7_leftOut 14 = .ok (.getfield 16, 3) := by decide +kernel
theorem dX7_leftOut_17 : decode cX7_leftOut 17 = .ok (.bipush 48, 2) := by decide +kernel
theorem dX7_leftOut_19 : decode cX7_leftOut 19 = .ok (.iload_n 2, 1) := by decide +kernel
theorem dX7_leftOut_20 : decode cX7_leftOut 20 = .ok (.iadd, 1) := by decide +kernel
theorem dX7_leftOut_21 : decode cX7_leftOut 21 = .ok (.iaload, 1) := by decide +kernel
theorem dX7_leftOut_22 : decode cX7_leftOut 22 = .ok (.iadd, 1) := by decide +kernel
theorem dX7_leftOut_23 : decode cX7_leftOut 23 = .ok (.istore_n 1, 1) := by decide +kernel
theorem dX7_leftOut_24 : decode cX7_leftOut 24 = .ok (.iinc 2 1, 3) := by decide +kernel
theorem dX7_leftOut_27 : decode cX7_leftOut 27 = .ok (.goto (-23), 3) := by decide +kernel
theorem dX7_leftOut_30 : decode cX7_leftOut 30 = .ok (.iload_n 1, 1) := by decide +kernel
theorem dX7_leftOut_31 : decode cX7_leftOut 31 = .ok (.ireturn, 1) := by decide +kernel
theorem dX7_leave_0 : decode cX7_leave 0 = .ok (.aload_n 0, 1) := by decide +kernel
theorem dX7_leave_1 : decode cX7_leave 1 = .ok (.iload_n 1, 1) := by decide +kernel
theorem dX7_leave_2 : decode cX7_leave 2 = .ok (.invokevirtual 107, 3) := by decide +kernel
theorem dX7_leave_5 : decode cX7_leave 5 = .ok (.ifCond .eq 12, 3) := by decide +kernel
theorem dX7_leave_8 : decode cX7_leave 8 = .ok (.iload_n 2, 1) := by decide +kernel
theorem dX7_leave_9 : decode cX7_leave 9 = .ok (.iconst 0, 1) := by decide +kernel
theorem dX7_leave_10 : decode cX7_leave 10 = .ok (.iconst 1, 1) := by decide +kernel
theorem dX7_leave_11 : decode cX7_leave 11 = .ok (.invokestatic 76, 3) := by decide +kernel
theorem dX7_leave_14 : decode cX7_leave 14 = .ok (.ifCond .ne 5, 3) := by decide +kernel
theorem dX7_leave_17 : decode cX7_leave 17 = .ok (.iconst (-1), 1) := by decide +kernel
theorem dX7_leave_18 : decode cX7_leave 18 = .ok (.ireturn, 1) := by decide +kernel
theorem dX7_leave_19 : decode cX7_leave 19 = .ok (.aload_n 0, 1) := by decide +kernel
theorem dX7_leave_20 : decode cX7_leave 20 = .ok (.bipush 48, 2) := by decide +kernel
theorem dX7_leave_22 : decode cX7_leave 22 = .ok (.iload_n 1, 1) := by decide +kernel
theorem dX7_leave_23 : decode cX7_leave 23 = .ok (.iadd, 1) := by decide +kernel
theorem dX7_leave_24 : decode cX7_leave 24 = .ok (.iload_n 2, 1) := by decide +kernel
theorem dX7_leave_25 : decode cX7_leave 25 = .ok (.invokevirtual 110, 3) := by decide +kernel
theorem dX7_leave_28 : decode cX7_leave 28 = .ok (.bipush (-2), 2) := by decide +kernel
theorem dX7_leave_30 : decode cX7_leave 30 = .ok (.if_icmp .ne 8, 3) := by decide +kernel
theorem dX7_leave_33 : decode cX7_leave 33 = .ok (.bipush (-2), 2) := by decide +kernel
theorem dX7_leave_35 : decode cX7_leave 35 = .ok (.goto 7, 3) := by decide +kernel
theorem dX7_leave_38 : decode cX7_leave 38 = .ok (.aload_n 0, 1) := by decide +kernel
theorem dX7_leave_39 : decode cX7_leave 39 = .ok (.invokevirtual 114, 3) := by decide +kernel
theorem dX7_leave_42 : decode cX7_leave 42 = .ok (.ireturn, 1) := by decide +kernel
theorem dX7_look_0 : decode cX7_look 0 = .ok (.iload_n 1, 1) := by decide +kernel
theorem dX7_look_1 : decode cX7_look 1 = .ok (.iconst 0, 1) := by decide +kernel
theorem dX7_look_2 : decode cX7_look 2 = .ok (.iconst 4, 1) := by decide +kernel
theorem dX7_look_3 : decode cX7_look 3 = .ok (.invokestatic 76, 3) := by decide +kernel
theorem dX7_look_6 : decode cX7_look 6 = .ok (.ifCond .eq 30, 3) := by decide +kernel
theorem dX7_look_9 : decode cX7_look 9 = .ok (.iload_n 2, 1) := by decide +kernel
theorem dX7_look_10 : decode cX7_look 10 = .ok (.iload_n 1, 1) := by decide +kernel
theorem dX7_look_11 : decode cX7_look 11 = .ok (.invokestatic 70, 3) := by decide +kernel
theorem dX7_look_14 : decode cX7_look 14 = .ok (.iload_n 1, 1) := by decide +kernel
theorem dX7_look_15 : decode cX7_look 15 = .ok (.invokestatic 73, 3) := by decide +kernel
theorem dX7_look_18 : decode cX7_look 18 = .ok (.invokestatic 76, 3) := by decide +kernel
theorem dX7_look_21 : decode cX7_look 21 = .ok (.ifCond .eq 15, 3) := by decide +kernel
theorem dX7_look_24 : decode cX7_look 24 = .ok (.aload_n 0, 1) := by decide +kernel
theorem dX7_look_25 : decode cX7_look 25 = .ok (.bipush 96, 2) := by decide +kernel
theorem dX7_look_27 : decode cX7_look 27 = .ok (.iload_n 1, 1) := by decide +kernel
theorem dX7_look_28 : decode cX7_look 28 = .ok (.iadd, 1) := by decide +kernel
theorem dX7_look_29 : decode cX7_look 29 = .ok (.iload_n 2, 1) := by decide +kernel
theorem dX7_look_30 : decode cX7_look 30 = .ok (.invokevirtual 110, 3) := by decide +kernel
theorem dX7_look_33 : decode cX7_look 33 = .ok (.goto 4, 3) := by decide +kernel
theorem dX7_look_36 : decode cX7_look 36 = .ok (.iconst (-1), 1) := by decide +kernel
theorem dX7_look_37 : decode cX7_look 37 = .ok (.ireturn, 1) := by decide +kernel
theorem dX7_mode_0 : decode cX7_mode 0 = .ok (.iload_n 1, 1) := by decide +kernel
theorem dX7_mode_1 : decode cX7_mode 1 = .ok (.iconst 0, 1) := by decide +kernel
theorem dX7_mode_2 : decode cX7_mode 2 = .ok (.iconst 2, 1) := by decide +kernel
theorem dX7_mode_3 : decode cX7_mode 3 = .ok (.invokestatic 76, 3) := by decide +kernel
theorem dX7_mode_6 : decode cX7_mode 6 = .ok (.ifCond .eq 13, 3) := by decide +kernel
theorem dX7_mode_9 : decode cX7_mode 9 = .ok (.aload_n 0, 1) := by decide +kernel
theorem dX7_mode_10 : decode cX7_mode 10 = .ok (.bipush 101, 2) := by decide +kernel
theorem dX7_mode_12 : decode cX7_mode 12 = .ok (.iload_n 1, 1) := by decide +kernel
theorem dX7_mode_13 : decode cX7_mode 13 = .ok (.invokevirtual 110, 3) := by decide +kernel
theorem dX7_mode_16 : decode cX7_mode 16 = .ok (.goto 4, 3) := by decide +kernel
theorem dX7_mode_19 : decode cX7_mode 19 = .ok (.iconst (-1), 1) := by decide +kernel
theorem dX7_mode_20 : decode cX7_mode 20 = .ok (.ireturn, 1) := by decide +kernel
theorem dX7_slide_0 : decode cX7_slide 0 = .ok (.iload_n 1, 1) := by decide +kernel
theorem dX7_slide_1 : decode cX7_slide 1 = .ok (.iconst 0, 1) := by decide +kernel
theorem dX7_slide_2 : decode cX7_slide 2 = .ok (.bipush 99, 2) := by decide +kernel
theorem dX7_slide_4 : decode cX7_slide 4 = .ok (.invokestatic 76, 3) := by decide +kernel
theorem dX7_slide_7 : decode cX7_slide 7 = .ok (.ifCond .ne 5, 3) := by decide +kernel
theorem dX7_slide_10 : decode cX7_slide 10 = .ok (.iconst (-1), 1) := by decide +kernel
theorem dX7_slide_11 : decode cX7_slide 11 = .ok (.ireturn, 1) := by decide +kernel
theorem dX7_slide_12 : decode cX7_slide 12 = .ok (.aload_n 0, 1) := by decide +kernel
theorem dX7_slide_13 : decode cX7_slide 13 = .ok (.getfield 16, 3) := by decide +kernel
theorem dX7_slide_16 : decode cX7_slide 16 = .ok (.iconst 0, 1) := by decide +kernel
theorem dX7_slide_17 : decode cX7_slide 17 = .ok (.iaload, 1) := by decide +kernel
theorem dX7_slide_18 : decode cX7_slide 18 = .ok (.istore_n 2, 1) := by decide +kernel
theorem dX7_slide_19 : decode cX7_slide 19 = .ok (.aload_n 0, 1) := by decide +kernel
theorem dX7_slide_20 : decode cX7_slide 20 = .ok (.invokevirtual 104, 3) := by decide +kernel
theorem dX7_slide_23 : decode cX7_slide 23 = .ok (.iconst 1, 1) := by decide +kernel
theorem dX7_slide_24 : decode cX7_slide 24 = .ok (.istore_n 3, 1) := by decide +kernel
theorem dX7_slide_25 : decode cX7_slide 25 = .ok (.iload_n 3, 1) := by decide +kernel
theorem dX7_slide_26 : decode cX7_slide 26 = .ok (.aload_n 0, 1) := by decide +kernel
theorem dX7_slide_27 : decode cX7_slide 27 = .ok (.getfield 48, 3) := by decide +kernel
theorem dX7_slide_30 : decode cX7_slide 30 = .ok (.if_icmp .ge 41, 3) := by decide +kernel
theorem dX7_slide_33 : decode cX7_slide 33 = .ok (.aload_n 0, 1) := by decide +kernel
theorem dX7_slide_34 : decode cX7_slide 34 = .ok (.getfield 16, 3) := by decide +kernel
theorem dX7_slide_37 : decode cX7_slide 37 = .ok (.iload_n 3, 1) := by decide +kernel
theorem dX7_slide_38 : decode cX7_slide 38 = .ok (.iconst 1, 1) := by decide +kernel
theorem dX7_slide_39 : decode cX7_slide 39 = .ok (.isub, 1) := by decide +kernel
theorem dX7_slide_40 : decode cX7_slide 40 = .ok (.aload_n 0, 1) := by decide +kernel
theorem dX7_slide_41 : decode cX7_slide 41 = .ok (.getfield 16, 3) := by decide +kernel
theorem dX7_slide_44 : decode cX7_slide 44 = .ok (.iload_n 3, 1) := by decide +kernel
theorem dX7_slide_45 : decode cX7_slide 45 = .ok (.iaload, 1) := by decide +kernel
theorem dX7_slide_46 : decode cX7_slide 46 = .ok (.iastore, 1) := by decide +kernel
theorem dX7_slide_47 : decode cX7_slide 47 = .ok (.aload_n 0, 1) := by decide +kernel
theorem dX7_slide_48 : decode cX7_slide 48 = .ok (.getfield 16, 3) := by decide +kernel
theorem dX7_slide_51 : decode cX7_slide 51 = .ok (.bipush 47, 2) := by decide +kernel
theorem dX7_slide_53 : decode cX7_slide 53 = .ok (.iload_n 3, 1) := by decide +kernel
theorem dX7_slide_54 : decode cX7_slide 54 = .ok (.iadd, 1) := by decide +kernel
theorem dX7_slide_55 : decode cX7_slide 55 = .ok (.aload_n 0, 1) := by decide +kernel
theorem dX7_slide_56 : decode cX7_slide 56 = .ok (.getfield 16, 3) := by decide +kernel
theorem dX7_slide_59 : decode cX7_slide 59 = .ok (.bipush 48, 2) := by decide +kernel
theorem dX7_slide_61 : decode cX7_slide 61 = .ok (.iload_n 3, 1) := by decide +kernel
theorem dX7_slide_62 : decode cX7_slide 62 = .ok (.iadd, 1) := by decide +kernel
theorem dX7_slide_63 : decode cX7_slide 63 = .ok (.iaload, 1) := by decide +kernel
theorem dX7_slide_64 : decode cX7_slide 64 = .ok (.iastore, 1) := by decide +kernel
theorem dX7_slide_65 : decode cX7_slide 65 = .ok (.iinc 3 1, 3) := by decide +kernel
theorem dX7_slide_68 : decode cX7_slide 68 = .ok (.goto (-43), 3) := by decide +kernel
theorem dX7_slide_71 : decode cX7_slide 71 = .ok (.aload_n 0, 1) := by decide +kernel
theorem dX7_slide_72 : decode cX7_slide 72 = .ok (.getfield 16, 3) := by decide +kernel
theorem dX7_slide_75 : decode cX7_slide 75 = .ok (.aload_n 0, 1) := by decide +kernel
theorem dX7_slide_76 : decode cX7_slide 76 = .ok (.getfield 48, 3) := by decide +kernel
theorem dX7_slide_79 : decode cX7_slide 79 = .ok (.iconst 1, 1) := by decide +kernel
theorem dX7_slide_80 : decode cX7_slide 80 = .ok (.isub, 1) := by decide +kernel
theorem dX7_slide_81 : decode cX7_slide 81 = .ok (.iload_n 1, 1) := by decide +kernel
theorem dX7_slide_82 : decode cX7_slide 82 = .ok (.iastore, 1) := by decide +kernel
theorem dX7_slide_83 : decode cX7_slide 83 = .ok (.aload_n 0, 1) := by decide +kernel
theorem dX7_slide_84 : decode cX7_slide 84 = .ok (.getfield 16, 3) := by decide +kernel
theorem dX7_slide_87 : decode cX7_slide 87 = .ok (.bipush 47, 2) := by decide +kernel
theorem dX7_slide_89 : decode cX7_slide 89 = .ok (.aload_n 0, 1) := by decide +kernel
theorem dX7_slide_90 : decode cX7_slide 90 = .ok (.getfield 48, 3) := by decide +kernel
theorem dX7_slide_93 : decode cX7_slide 93 = .ok (.iadd, 1) := by decide +kernel
theorem dX7_slide_94 : decode cX7_slide 94 = .ok (.iconst 0, 1) := by decide +kernel
theorem dX7_slide_95 : decode cX7_slide 95 = .ok (.iastore, 1) := by decide +kernel
theorem dX7_slide_96 : decode cX7_slide 96 = .ok (.iload_n 2, 1) := by decide +kernel
theorem dX7_slide_97 : decode cX7_slide 97 = .ok (.ireturn, 1) := by decide +kernel
theorem dX7_undo_0 : decode cX7_undo 0 = .ok (.aload_n 0, 1) := by decide +kernel
theorem dX7_undo_1 : decode cX7_undo 1 = .ok (.getfield 54, 3) := by decide +kernel
theorem dX7_undo_4 : decode cX7_undo 4 = .ok (.ifCond .ne 6, 3) := by decide +kernel
theorem dX7_undo_7 : decode cX7_undo 7 = .ok (.bipush (-2), 2) := by decide +kernel
theorem dX7_undo_9 : decode cX7_undo 9 = .ok (.ireturn, 1) := by decide +kernel
theorem dX7_undo_10 : decode cX7_undo 10 = .ok (.aload_n 0, 1) := by decide +kernel
theorem dX7_undo_11 : decode cX7_undo 11 = .ok (.dup, 1) := by decide +kernel
theorem dX7_undo_12 : decode cX7_undo 12 = .ok (.getfield 54, 3) := by decide +kernel
theorem dX7_undo_15 : decode cX7_undo 15 = .ok (.iconst 1, 1) := by decide +kernel
theorem dX7_undo_16 : decode cX7_undo 16 = .ok (.isub, 1) := by decide +kernel
theorem dX7_undo_17 : decode cX7_undo 17 = .ok (.putfield 54, 3) := by decide +kernel
theorem dX7_undo_20 : decode cX7_undo 20 = .ok (.iconst 0, 1) := by decide +kernel
theorem dX7_undo_21 : decode cX7_undo 21 = .ok (.istore_n 1, 1) := by decide +kernel
theorem dX7_undo_22 : decode cX7_undo 22 = .ok (.iload_n 1, 1) := by decide +kernel
theorem dX7_undo_23 : decode cX7_undo 23 = .ok (.bipush 102, 2) := by decide +kernel
theorem dX7_undo_25 : decode cX7_undo 25 = .ok (.if_icmp .ge 29, 3) := by decide +kernel
theorem dX7_undo_28 : decode cX7_undo 28 = .ok (.aload_n 0, 1) := by decide +kernel
theorem dX7_undo_29 : decode cX7_undo 29 = .ok (.getfield 16, 3) := by decide +kernel
theorem dX7_undo_32 : decode cX7_undo 32 = .ok (.iload_n 1, 1) := by decide +kernel
theorem dX7_undo_33 : decode cX7_undo 33 = .ok (.aload_n 0, 1) := by decide +kernel
theorem dX7_undo_34 : decode cX7_undo 34 = .ok (.getfield 19, 3) := by decide +kernel
theorem dX7_undo_37 : decode cX7_undo 37 = .ok (.bipush 102, 2) := by decide +kernel
theorem dX7_undo_39 : decode cX7_undo 39 = .ok (.aload_n 0, 1) := by decide +kernel
theorem dX7_undo_40 : decode cX7_undo 40 = .ok (.getfield 54, 3) := by decide +kernel
theorem dX7_undo_43 : decode cX7_undo 43 = .ok (.imul, 1) := by decide +kernel
theorem dX7_undo_44 : decode cX7_undo 44 = .ok (.iload_n 1, 1) := by decide +kernel
theorem dX7_undo_45 : decode cX7_undo 45 = .ok (.iadd, 1) := by decide +kernel
theorem dX7_undo_46 : decode cX7_undo 46 = .ok (.iaload, 1) := by decide +kernel
theorem dX7_undo_47 : decode cX7_undo 47 = .ok (.iastore, 1) := by decide +kernel
theorem dX7_undo_48 : decode cX7_undo 48 = .ok (.iinc 1 1, 3) := by decide +kernel
theorem dX7_undo_51 : decode cX7_undo 51 = .ok (.goto (-29), 3) := by decide +kernel
theorem dX7_undo_54 : decode cX7_undo 54 = .ok (.aload_n 0, 1) := by decide +kernel
theorem dX7_undo_55 : decode cX7_undo 55 = .ok (.getfield 54, 3) := by decide +kernel
theorem dX7_undo_58 : decode cX7_undo 58 = .ok (.ireturn, 1) := by decide +kernel
theorem dX7_meets_0 : decode cX7_meets 0 = .ok (.iload_n 1, 1) := by decide +kernel
theorem dX7_meets_1 : decode cX7_meets 1 = .ok (.ifCond .ge 7, 3) := by decide +kernel
theorem dX7_meets_4 : decode cX7_meets 4 = .ok (.iconst 0, 1) := by decide +kernel
theorem dX7_meets_5 : decode cX7_meets 5 = .ok (.goto 4, 3) := by decide +kernel
theorem dX7_meets_8 : decode cX7_meets 8 = .ok (.iload_n 1, 1) := by decide +kernel
theorem dX7_meets_9 : decode cX7_meets 9 = .ok (.istore_n 3, 1) := by decide +kernel
theorem dX7_meets_10 : decode cX7_meets 10 = .ok (.iload_n 3, 1) := by decide +kernel
theorem dX7_meets_11 : decode cX7_meets 11 = .ok (.iload_n 2, 1) := by decide +kernel
theorem dX7_meets_12 : decode cX7_meets 12 = .ok (.if_icmp .gt 103, 3) := by decide +kernel
theorem dX7_meets_15 : decode cX7_meets 15 = .ok (.iload_n 3, 1) := by decide +kernel
theorem dX7_meets_16 : decode cX7_meets 16 = .ok (.aload_n 0, 1) := by decide +kernel
theorem dX7_meets_17 : decode cX7_meets 17 = .ok (.getfield 48, 3) := by decide +kernel
theorem dX7_meets_20 : decode cX7_meets 20 = .ok (.if_icmp .ge 95, 3) := by decide +kernel
theorem dX7_meets_23 : decode cX7_meets 23 = .ok (.aload_n 0, 1) := by decide +kernel
theorem dX7_meets_24 : decode cX7_meets 24 = .ok (.getfield 16, 3) := by decide +kernel
theorem dX7_meets_27 : decode cX7_meets 27 = .ok (.bipush 48, 2) := by decide +kernel
theorem dX7_meets_29 : decode cX7_meets 29 = .ok (.iload_n 3, 1) := by decide +kernel
theorem dX7_meets_30 : decode cX7_meets 30 = .ok (.iadd, 1) := by decide +kernel
theorem dX7_meets_31 : decode cX7_meets 31 = .ok (.iaload, 1) := by decide +kernel
theorem dX7_meets_32 : decode cX7_meets 32 = .ok (.ifCond .ne 77, 3) := by decide +kernel
theorem dX7_meets_35 : decode cX7_meets 35 = .ok (.aload_n 0, 1) := by decide +kernel
theorem dX7_meets_36 : decode cX7_meets 36 = .ok (.getfield 117, 3) := by decide +kernel
theorem dX7_meets_39 : decode cX7_meets 39 = .ok (.istore 4, 2) := by decide +kernel
theorem dX7_meets_41 : decode cX7_meets 41 = .ok (.iload 4, 2) := by decide +kernel
theorem dX7_meets_43 : decode cX7_meets 43 = .ok (.ifCond .le 43, 3) := by decide +kernel
theorem dX7_meets_46 : decode cX7_meets 46 = .ok (.aload_n 0, 1) := by decide +kernel
theorem dX7_meets_47 : decode cX7_meets 47 = .ok (.getfield 28, 3) := by decide +kernel
theorem dX7_meets_50 : decode cX7_meets 50 = .ok (.iload 4, 2) := by decide +kernel
theorem dX7_meets_52 : decode cX7_meets 52 = .ok (.iconst 1, 1) := by decide +kernel
theorem dX7_meets_53 : decode cX7_meets 53 = .ok (.isub, 1) := by decide +kernel
theorem dX7_meets_54 : decode cX7_meets 54 = .ok (.iaload, 1) := by decide +kernel
theorem dX7_meets_55 : decode cX7_meets 55 = .ok (.aload_n 0, 1) := by decide +kernel
theorem dX7_meets_56 : decode cX7_meets 56 = .ok (.getfield 16, 3) := by decide +kernel
theorem dX7_meets_59 : decode cX7_meets 59 = .ok (.iload_n 3, 1) := by decide +kernel
theorem dX7_meets_60 : decode cX7_meets 60 = .ok (.iaload, 1) := by decide +kernel
theorem dX7_meets_61 : decode cX7_meets 61 = .ok (.if_icmp .le 25, 3) := by decide +kernel
theorem dX7_meets_64 : decode cX7_meets 64 = .ok (.aload_n 0, 1) := by decide +kernel
theorem dX7_meets_65 : decode cX7_meets 65 = .ok (.getfield 28, 3) := by decide +kernel
theorem dX7_meets_68 : decode cX7_meets 68 = .ok (.iload 4, 2) := by decide +kernel
theorem dX7_meets_70 : decode cX7_meets 70 = .ok (.aload_n 0, 1) := by decide +kernel
theorem dX7_meets_71 : decode cX7_meets 71 = .ok (.getfield 28, 3) := by decide +kernel
theorem dX7_meets_74 : decode cX7_meets 74 = .ok (.iload 4, 2) := by decide +kernel
theorem dX7_meets_76 : decode cX7_meets 76 = .ok (.iconst 1, 1) := by decide +kernel
theorem dX7_meets_77 : decode cX7_meets 77 = .ok (.isub, 1) := by decide +kernel
theorem dX7_meets_78 : decode cX7_meets 78 = .ok (.iaload, 1) := by decide +kernel
theorem dX7_meets_79 : decode cX7_meets 79 = .ok (.iastore, 1) := by decide +kernel
theorem dX7_meets_80 : decode cX7_meets 80 = .ok (.iinc 4 (-1), 3) := by decide +kernel
theorem dX7_meets_83 : decode cX7_meets 83 = .ok (.goto (-42), 3) := by decide +kernel
theorem dX7_meets_86 : decode cX7_meets 86 = .ok (.aload_n 0, 1) := by decide +kernel
theorem dX7_meets_87 : decode cX7_meets 87 = .ok (.getfield 28, 3) := by decide +kernel
theorem dX7_meets_90 : decode cX7_meets 90 = .ok (.iload 4, 2) := by decide +kernel
theorem dX7_meets_92 : decode cX7_meets 92 = .ok (.aload_n 0, 1) := by decide +kernel
theorem dX7_meets_93 : decode cX7_meets 93 = .ok (.getfield 16, 3) := by decide +kernel
theorem dX7_meets_96 : decode cX7_meets 96 = .ok (.iload_n 3, 1) := by decide +kernel
theorem dX7_meets_97 : decode cX7_meets 97 = .ok (.iaload, 1) := by decide +kernel
theorem dX7_meets_98 : decode cX7_meets 98 = .ok (.iastore, 1) := by decide +kernel
theorem dX7_meets_99 : decode cX7_meets 99 = .ok (.aload_n 0, 1) := by decide +kernel
theorem dX7_meets_100 : decode cX7_meets 100 = .ok (.dup, 1) := by decide +kernel
theorem dX7_meets_101 : decode cX7_meets 101 = .ok (.getfield 117, 3) := by decide +kernel
theorem dX7_meets_104 : decode cX7_meets 104 = .ok (.iconst 1, 1) := by decide +kernel
theorem dX7_meets_105 : decode cX7_meets 105 = .ok (.iadd, 1) := by decide +kernel
theorem dX7_meets_106 : decode cX7_meets 106 = .ok (.putfield 117, 3) := by decide +kernel
theorem dX7_meets_109 : decode cX7_meets 109 = .ok (.iinc 3 1, 3) := by decide +kernel
theorem dX7_meets_112 : decode cX7_meets 112 = .ok (.goto (-102), 3) := by decide +kernel
theorem dX7_meets_115 : decode cX7_meets 115 = .ok (.return_, 1) := by decide +kernel
theorem dX7_rank_0 : decode cX7_rank 0 = .ok (.aload_n 0, 1) := by decide +kernel
theorem dX7_rank_1 : decode cX7_rank 1 = .ok (.getfield 16, 3) := by decide +kernel
theorem dX7_rank_4 : decode cX7_rank 4 = .ok (.bipush 96, 2) := by decide +kernel
theorem dX7_rank_6 : decode cX7_rank 6 = .ok (.iaload, 1) := by decide +kernel
theorem dX7_rank_7 : decode cX7_rank 7 = .ok (.istore_n 3, 1) := by decide +kernel
theorem dX7_rank_8 : decode cX7_rank 8 = .ok (.aload_n 0, 1) := by decide +kernel
theorem dX7_rank_9 : decode cX7_rank 9 = .ok (.getfield 16, 3) := by decide +kernel
theorem dX7_rank_12 : decode cX7_rank 12 = .ok (.bipush 97, 2) := by decide +kernel
theorem dX7_rank_14 : decode cX7_rank 14 = .ok (.iaload, 1) := by decide +kernel
theorem dX7_rank_15 : decode cX7_rank 15 = .ok (.istore 4, 2) := by decide +kernel
theorem dX7_rank_17 : decode cX7_rank 17 = .ok (.aload_n 0, 1) := by decide +kernel
theorem dX7_rank_18 : decode cX7_rank 18 = .ok (.iconst 0, 1) := by decide +kernel
theorem dX7_rank_19 : decode cX7_rank 19 = .ok (.putfield 117, 3) := by decide +kernel
theorem dX7_rank_22 : decode cX7_rank 22 = .ok (.iload_n 2, 1) := by decide +kernel
theorem dX7_rank_23 : decode cX7_rank 23 = .ok (.iconst 1, 1) := by decide +kernel
theorem dX7_rank_24 : decode cX7_rank 24 = .ok (.if_icmp .eq 19, 3) := by decide +kernel
theorem dX7_rank_27 : decode cX7_rank 27 = .ok (.aload_n 0, 1) := by decide +kernel
theorem dX7_rank_28 : decode cX7_rank 28 = .ok (.iload_n 1, 1) := by decide +kernel
theorem dX7_rank_29 : decode cX7_rank 29 = .ok (.iload 4, 2) := by decide +kernel
theorem dX7_rank_31 : decode cX7_rank 31 = .ok (.isub, 1) := by decide +kernel
theorem dX7_rank_32 : decode cX7_rank 32 = .ok (.iload_n 3, 1) := by decide +kernel
theorem dX7_rank_33 : decode cX7_rank 33 = .ok (.isub, 1) := by decide +kernel
theorem dX7_rank_34 : decode cX7_rank 34 = .ok (.iload_n 1, 1) := by decide +kernel
theorem dX7_rank_35 : decode cX7_rank 35 = .ok (.iload 4, 2) := by decide +kernel
theorem dX7_rank_37 : decode cX7_rank 37 = .ok (.isub, 1) := by decide +kernel
theorem dX7_rank_38 : decode cX7_rank 38 = .ok (.iconst 1, 1) := by decide +kernel
theorem dX7_rank_39 : decode cX7_rank 39 = .ok (.isub, 1) := by decide +kernel
theorem dX7_rank_40 : decode cX7_rank 40 = .ok (.invokevirtual 120, 3) := by decide +kernel
theorem dX7_rank_43 : decode cX7_rank 43 = .ok (.iload_n 2, 1) := by decide +kernel
theorem dX7_rank_44 : decode cX7_rank 44 = .ok (.ifCond .eq 19, 3) := by decide +kernel
theorem dX7_rank_47 : decode cX7_rank 47 = .ok (.aload_n 0, 1) := by decide +kernel
theorem dX7_rank_48 : decode cX7_rank 48 = .ok (.iload_n 1, 1) := by decide +kernel
theorem dX7_rank_49 : decode cX7_rank 49 = .ok (.iload 4, 2) := by decide +kernel
theorem dX7_rank_51 : decode cX7_rank 51 = .ok (.iadd, 1) := by decide +kernel
theorem dX7_rank_52 : decode cX7_rank 52 = .ok (.iconst 1, 1) := by decide +kernel
theorem dX7_rank_53 : decode cX7_rank 53 = .ok (.iadd, 1) := by decide +kernel
theorem dX7_rank_54 : decode cX7_rank 54 = .ok (.iload_n 1, 1) := by decide +kernel
theorem dX7_rank_55 : decode cX7_rank 55 = .ok (.iload 4, 2) := by decide +kernel
theorem dX7_rank_57 : decode cX7_rank 57 = .ok (.iadd, 1) := by decide +kernel
theorem dX7_rank_58 : decode cX7_rank 58 = .ok (.iload_n 3, 1) := by decide +kernel
theorem dX7_rank_59 : decode cX7_rank 59 = .ok (.iadd, 1) := by decide +kernel
theorem dX7_rank_60 : decode cX7_rank 60 = .ok (.invokevirtual 120, 3) := by decide +kernel
theorem dX7_rank_63 : decode cX7_rank 63 = .ok (.aload_n 0, 1) := by decide +kernel
theorem dX7_rank_64 : decode cX7_rank 64 = .ok (.getfield 117, 3) := by decide +kernel
theorem dX7_rank_67 : decode cX7_rank 67 = .ok (.ireturn, 1) := by decide +kernel
theorem dX7_byRank_0 : decode cX7_byRank 0 = .ok (.aload_n 0, 1) := by decide +kernel
theorem dX7_byRank_1 : decode cX7_byRank 1 = .ok (.iload_n 1, 1) := by decide +kernel
theorem dX7_byRank_2 : decode cX7_byRank 2 = .ok (.iload_n 2, 1) := by decide +kernel
theorem dX7_byRank_3 : decode cX7_byRank 3 = .ok (.invokevirtual 124, 3) := by decide +kernel
theorem dX7_byRank_6 : decode cX7_byRank 6 = .ok (.istore_n 3, 1) := by decide +kernel
theorem dX7_byRank_7 : decode cX7_byRank 7 = .ok (.iload_n 3, 1) := by decide +kernel
theorem dX7_byRank_8 : decode cX7_byRank 8 = .ok (.ifCond .ne 8, 3) := by decide +kernel
theorem dX7_byRank_11 : decode cX7_byRank 11 = .ok (.bipush (-4), 2) := by decide +kernel
theorem dX7_byRank_13 : decode cX7_byRank 13 = .ok (.goto 34, 3) := by decide +kernel
theorem dX7_byRank_16 : decode cX7_byRank 16 = .ok (.aload_n 0, 1) := by decide +kernel
theorem dX7_byRank_17 : decode cX7_byRank 17 = .ok (.getfield 28, 3) := by decide +kernel
theorem dX7_byRank_20 : decode cX7_byRank 20 = .ok (.iload_n 3, 1) := by decide +kernel
theorem dX7_byRank_21 : decode cX7_byRank 21 = .ok (.aload_n 0, 1) := by decide +kernel
theorem dX7_byRank_22 : decode cX7_byRank 22 = .ok (.getfield 16, 3) := by decide +kernel
theorem dX7_byRank_25 : decode cX7_byRank 25 = .ok (.bipush 98, 2) := by decide +kernel
theorem dX7_byRank_27 : decode cX7_byRank 27 = .ok (.iaload, 1) := by decide +kernel
theorem dX7_byRank_28 : decode cX7_byRank 28 = .ok (.if_icmp .ge 9, 3) := by decide +kernel
theorem dX7_byRank_31 : decode cX7_byRank 31 = .ok (.iload_n 3, 1) := by decide +kernel
theorem dX7_byRank_32 : decode cX7_byRank 32 = .ok (.iconst 1, 1) := by decide +kernel
theorem dX7_byRank_33 : decode cX7_byRank 33 = .ok (.isub, 1) := by decide +kernel
theorem dX7_byRank_34 : decode cX7_byRank 34 = .ok (.goto 12, 3) := by decide +kernel
theorem dX7_byRank_37 : decode cX7_byRank 37 = .ok (.aload_n 0, 1) := by decide +kernel
theorem dX7_byRank_38 : decode cX7_byRank 38 = .ok (.getfield 16, 3) := by decide +kernel
theorem dX7_byRank_41 : decode cX7_byRank 41 = .ok (.bipush 98, 2) := by decide +kernel
theorem dX7_byRank_43 : decode cX7_byRank 43 = .ok (.iaload, 1) := by decide +kernel
theorem dX7_byRank_44 : decode cX7_byRank 44 = .ok (.iconst 1, 1) := by decide +kernel
theorem dX7_byRank_45 : decode cX7_byRank 45 = .ok (.isub, 1) := by decide +kernel
theorem dX7_byRank_46 : decode cX7_byRank 46 = .ok (.iaload, 1) := by decide +kernel
theorem dX7_byRank_47 : decode cX7_byRank 47 = .ok (.ireturn, 1) := by decide +kernel
theorem dX7_floorOf_0 : decode cX7_floorOf 0 = .ok (.aload_n 0, 1) := by decide +kernel
theorem dX7_floorOf_1 : decode cX7_floorOf 1 = .ok (.getfield 16, 3) := by decide +kernel
theorem dX7_floorOf_4 : decode cX7_floorOf 4 = .ok (.bipush 101, 2) := by decide +kernel
theorem dX7_floorOf_6 : decode cX7_floorOf 6 = .ok (.iaload, 1) := by decide +kernel
theorem dX7_floorOf_7 : decode cX7_floorOf 7 = .ok (.ifCond .ne 10, 3) := by decide +kernel
theorem dX7_floorOf_10 : decode cX7_floorOf 10 = .ok (.aload_n 0, 1) := by decide +kernel
theorem dX7_floorOf_11 : decode cX7_floorOf 11 = .ok (.iload_n 1, 1) := by decide +kernel
theorem dX7_floorOf_12 : decode cX7_floorOf 12 = .ok (.iconst 2, 1) := by decide +kernel
theorem dX7_floorOf_13 : decode cX7_floorOf 13 = .ok (.invokevirtual 127, 3) := by decide +kernel
theorem dX7_floorOf_16 : decode cX7_floorOf 16 = .ok (.ireturn, 1) := by decide +kernel
theorem dX7_floorOf_17 : decode cX7_floorOf 17 = .ok (.aload_n 0, 1) := by decide +kernel
theorem dX7_floorOf_18 : decode cX7_floorOf 18 = .ok (.iload_n 1, 1) := by decide +kernel
theorem dX7_floorOf_19 : decode cX7_floorOf 19 = .ok (.iconst 0, 1) := by decide +kernel
theorem dX7_floorOf_20 : decode cX7_floorOf 20 = .ok (.invokevirtual 127, 3) := by decide +kernel
theorem dX7_floorOf_23 : decode cX7_floorOf 23 = .ok (.istore_n 2, 1) := by decide +kernel
theorem dX7_floorOf_24 : decode cX7_floorOf 24 = .ok (.aload_n 0, 1) := by decide +kernel
theorem dX7_floorOf_25 : decode cX7_floorOf 25 = .ok (.iload_n 1, 1) := by decide +kernel
theorem dX7_floorOf_26 : decode cX7_floorOf 26 = .ok (.iconst 1, 1) := by decide +kernel
theorem dX7_floorOf_27 : decode cX7_floorOf 27 = .ok (.invokevirtual 127, 3) := by decide +kernel
theorem dX7_floorOf_30 : decode cX7_floorOf 30 = .ok (.istore_n 3, 1) := by decide +kernel
theorem dX7_floorOf_31 : decode cX7_floorOf 31 = .ok (.iload_n 2, 1) := by decide +kernel
theorem dX7_floorOf_32 : decode cX7_floorOf 32 = .ok (.ifCond .lt 7, 3) := by decide +kernel
theorem dX7_floorOf_35 : decode cX7_floorOf 35 = .ok (.iload_n 3, 1) := by decide +kernel
theorem dX7_floorOf_36 : decode cX7_floorOf 36 = .ok (.ifCond .ge 13, 3) := by decide +kernel
theorem dX7_floorOf_39 : decode cX7_floorOf 39 = .ok (.iload_n 2, 1) := by decide +kernel
theorem dX7_floorOf_40 : decode cX7_floorOf 40 = .ok (.ifCond .ge 7, 3) := by decide +kernel
theorem dX7_floorOf_43 : decode cX7_floorOf 43 = .ok (.iload_n 3, 1) := by decide +kernel
theorem dX7_floorOf_44 : decode cX7_floorOf 44 = .ok (.goto 4, 3) := by decide +kernel
theorem dX7_floorOf_47 : decode cX7_floorOf 47 = .ok (.iload_n 2, 1) := by decide +kernel
theorem dX7_floorOf_48 : decode cX7_floorOf 48 = .ok (.ireturn, 1) := by decide +kernel
theorem dX7_floorOf_49 : decode cX7_floorOf 49 = .ok (.iload_n 2, 1) := by decide +kernel
theorem dX7_floorOf_50 : decode cX7_floorOf 50 = .ok (.iload_n 3, 1) := by decide +kernel
theorem dX7_floorOf_51 : decode cX7_floorOf 51 = .ok (.if_icmp .le 7, 3) := by decide +kernel
theorem dX7_floorOf_54 : decode cX7_floorOf 54 = .ok (.iconst 1, 1) := by decide +kernel
theorem dX7_floorOf_55 : decode cX7_floorOf 55 = .ok (.goto 4, 3) := by decide +kernel
theorem dX7_floorOf_58 : decode cX7_floorOf 58 = .ok (.iconst 0, 1) := by decide +kernel
theorem dX7_floorOf_59 : decode cX7_floorOf 59 = .ok (.aload_n 0, 1) := by decide +kernel
theorem dX7_floorOf_60 : decode cX7_floorOf 60 = .ok (.getfield 16, 3) := by decide +kernel
theorem dX7_floorOf_63 : decode cX7_floorOf 63 = .ok (.bipush 101, 2) := by decide +kernel
theorem dX7_floorOf_65 : decode cX7_floorOf 65 = .ok (.iaload, 1) := by decide +kernel
theorem dX7_floorOf_66 : decode cX7_floorOf 66 = .ok (.iconst 1, 1) := by decide +kernel
theorem dX7_floorOf_67 : decode cX7_floorOf 67 = .ok (.if_icmp .ne 7, 3) := by decide +kernel
theorem dX7_floorOf_70 : decode cX7_floorOf 70 = .ok (.iconst 1, 1) := by decide +kernel
theorem dX7_floorOf_71 : decode cX7_floorOf 71 = .ok (.goto 4, 3) := by decide +kernel
theorem dX7_floorOf_74 : decode cX7_floorOf 74 = .ok (.iconst 0, 1) := by decide +kernel
theorem dX7_floorOf_75 : decode cX7_floorOf 75 = .ok (.if_icmp .ne 7, 3) := by decide +kernel
theorem dX7_floorOf_78 : decode cX7_floorOf 78 = .ok (.iload_n 2, 1) := by decide +kernel
theorem dX7_floorOf_79 : decode cX7_floorOf 79 = .ok (.goto 4, 3) := by decide +kernel
theorem dX7_floorOf_82 : decode cX7_floorOf 82 = .ok (.iload_n 3, 1) := by decide +kernel
theorem dX7_floorOf_83 : decode cX7_floorOf 83 = .ok (.ireturn, 1) := by decide +kernel
theorem dX7_isAlarm_0 : decode cX7_isAlarm 0 = .ok (.aload_n 0, 1) := by decide +kernel
theorem dX7_isAlarm_1 : decode cX7_isAlarm 1 = .ok (.iload_n 1, 1) := by decide +kernel
theorem dX7_isAlarm_2 : decode cX7_isAlarm 2 = .ok (.invokevirtual 130, 3) := by decide +kernel
theorem dX7_isAlarm_5 : decode cX7_isAlarm 5 = .ok (.istore_n 2, 1) := by decide +kernel
theorem dX7_isAlarm_6 : decode cX7_isAlarm 6 = .ok (.aload_n 0, 1) := by decide +kernel
theorem dX7_isAlarm_7 : decode cX7_isAlarm 7 = .ok (.getfield 16, 3) := by decide +kernel
theorem dX7_isAlarm_10 : decode cX7_isAlarm 10 = .ok (.bipush 48, 2) := by decide +kernel
theorem dX7_isAlarm_12 : decode cX7_isAlarm 12 = .ok (.iload_n 1, 1) := by decide +kernel
theorem dX7_isAlarm_13 : decode cX7_isAlarm 13 = .ok (.iadd, 1) := by decide +kernel
theorem dX7_isAlarm_14 : decode cX7_isAlarm 14 = .ok (.iaload, 1) := by decide +kernel
theorem dX7_isAlarm_15 : decode cX7_isAlarm 15 = .ok (.ifCond .ne 37, 3) := by decide +kernel
theorem dX7_isAlarm_18 : decode cX7_isAlarm 18 = .ok (.iload_n 2, 1) := by decide +kernel
theorem dX7_isAlarm_19 : decode cX7_isAlarm 19 = .ok (.ifCond .lt 33, 3) := by decide +kernel
theorem dX7_isAlarm_22 : decode cX7_isAlarm 22 = .ok (.aload_n 0, 1) := by decide +kernel
theorem dX7_isAlarm_23 : decode cX7_isAlarm 23 = .ok (.getfield 16, 3) := by decide +kernel
theorem dX7_isAlarm_26 : decode cX7_isAlarm 26 = .ok (.bipush 100, 2) := by decide +kernel
theorem dX7_isAlarm_28 : decode cX7_isAlarm 28 = .ok (.iaload, 1) := by decide +kernel
theorem dX7_isAlarm_29 : decode cX7_isAlarm 29 = .ok (.aload_n 0, 1) := by decide +kernel
theorem dX7_isAlarm_30 : decode cX7_isAlarm 30 = .ok (.getfield 16, 3) := by decide +kernel
theorem dX7_isAlarm_33 : decode cX7_isAlarm 33 = .ok (.iload_n 1, 1) := by decide +kernel
theorem dX7_isAlarm_34 : decode cX7_isAlarm 34 = .ok (.iaload, 1) := by decide +kernel
theorem dX7_isAlarm_35 : decode cX7_isAlarm 35 = .ok (.imul, 1) := by decide +kernel
theorem dX7_isAlarm_36 : decode cX7_isAlarm 36 = .ok (.aload_n 0, 1) := by decide +kernel
theorem dX7_isAlarm_37 : decode cX7_isAlarm 37 = .ok (.getfield 16, 3) := by decide +kernel
theorem dX7_isAlarm_40 : decode cX7_isAlarm 40 = .ok (.bipush 99, 2) := by decide +kernel
theorem dX7_isAlarm_42 : decode cX7_isAlarm 42 = .ok (.iaload, 1) := by decide +kernel
theorem dX7_isAlarm_43 : decode cX7_isAlarm 43 = .ok (.iload_n 2, 1) := by decide +kernel
theorem dX7_isAlarm_44 : decode cX7_isAlarm 44 = .ok (.imul, 1) := by decide +kernel
theorem dX7_isAlarm_45 : decode cX7_isAlarm 45 = .ok (.if_icmp .le 7, 3) := by decide +kernel
theorem dX7_isAlarm_48 : decode cX7_isAlarm 48 = .ok (.iconst 1, 1) := by decide +kernel
theorem dX7_isAlarm_49 : decode cX7_isAlarm 49 = .ok (.goto 4, 3) := by decide +kernel
theorem dX7_isAlarm_52 : decode cX7_isAlarm 52 = .ok (.iconst 0, 1) := by decide +kernel
theorem dX7_isAlarm_53 : decode cX7_isAlarm 53 = .ok (.ireturn, 1) := by decide +kernel
theorem dX7_alarms_0 : decode cX7_alarms 0 = .ok (.iconst 0, 1) := by decide +kernel
theorem dX7_alarms_1 : decode cX7_alarms 1 = .ok (.istore_n 1, 1) := by decide +kernel
theorem dX7_alarms_2 : decode cX7_alarms 2 = .ok (.iconst 0, 1) := by decide +kernel
theorem dX7_alarms_3 : decode cX7_alarms 3 = .ok (.istore_n 2, 1) := by decide +kernel
theorem dX7_alarms_4 : decode cX7_alarms 4 = .ok (.iload_n 2, 1) := by decide +kernel
theorem dX7_alarms_5 : decode cX7_alarms 5 = .ok (.aload_n 0, 1) := by decide +kernel
theorem dX7_alarms_6 : decode cX7_alarms 6 = .ok (.getfield 48, 3) := by decide +kernel
theorem dX7_alarms_9 : decode cX7_alarms 9 = .ok (.if_icmp .ge 25, 3) := by decide +kernel
theorem dX7_alarms_12 : decode cX7_alarms 12 = .ok (.iload_n 1, 1) := by decide +kernel
theorem dX7_alarms_13 : decode cX7_alarms 13 = .ok (.aload_n 0, 1) := by decide +kernel
theorem dX7_alarms_14 : decode cX7_alarms 14 = .ok (.iload_n 2, 1) := by decide +kernel
theorem dX7_alarms_15 : decode cX7_alarms 15 = .ok (.invokevirtual 133, 3) := by decide +kernel
theorem dX7_alarms_18 : decode cX7_alarms 18 = .ok (.ifCond .eq 7, 3) := by decide +kernel
theorem dX7_alarms_21 : decode cX7_alarms 21 = .ok (.iconst 1, 1) := by decide +kernel
theorem dX7_alarms_22 : decode cX7_alarms 22 = .ok (.goto 4, 3) := by decide +kernel
theorem dX7_alarms_25 : decode cX7_alarms 25 = .ok (.iconst 0, 1) := by decide +kernel
theorem dX7_alarms_26 : decode cX7_alarms 26 = .ok (.iadd, 1) := by decide +kernel
theorem dX7_alarms_27 : decode cX7_alarms 27 = .ok (.istore_n 1, 1) := by decide +kernel
theorem dX7_alarms_28 : decode cX7_alarms 28 = .ok (.iinc 2 1, 3) := by decide +kernel
theorem dX7_alarms_31 : decode cX7_alarms 31 = .ok (.goto (-27), 3) := by decide +kernel
theorem dX7_alarms_34 : decode cX7_alarms 34 = .ok (.iload_n 1, 1) := by decide +kernel
theorem dX7_alarms_35 : decode cX7_alarms 35 = .ok (.ireturn, 1) := by decide +kernel
theorem dX7_bunchesTo_0 : decode cX7_bunchesTo 0 = .ok (.iconst 0, 1) := by decide +kernel
theorem dX7_bunchesTo_1 : decode cX7_bunchesTo 1 = .ok (.istore_n 2, 1) := by decide +kernel
theorem dX7_bunchesTo_2 : decode cX7_bunchesTo 2 = .ok (.iconst 1, 1) := by decide +kernel
theorem dX7_bunchesTo_3 : decode cX7_bunchesTo 3 = .ok (.istore_n 3, 1) := by decide +kernel
theorem dX7_bunchesTo_4 : decode cX7_bunchesTo 4 = .ok (.iload_n 3, 1) := by decide +kernel
theorem dX7_bunchesTo_5 : decode cX7_bunchesTo 5 = .ok (.iload_n 1, 1) := by decide +kernel
theorem dX7_bunchesTo_6 : decode cX7_bunchesTo 6 = .ok (.if_icmp .gt 35, 3) := by decide +kernel
theorem dX7_bunchesTo_9 : decode cX7_bunchesTo 9 = .ok (.iload_n 2, 1) := by decide +kernel
theorem dX7_bunchesTo_10 : decode cX7_bunchesTo 10 = .ok (.aload_n 0, 1) := by decide +kernel
theorem dX7_bunchesTo_11 : decode cX7_bunchesTo 11 = .ok (.iload_n 3, 1) := by decide +kernel
theorem dX7_bunchesTo_12 : decode cX7_bunchesTo 12 = .ok (.iconst 1, 1) := by decide +kernel
theorem dX7_bunchesTo_13 : decode cX7_bunchesTo 13 = .ok (.isub, 1) := by decide +kernel
theorem dX7_bunchesTo_14 : decode cX7_bunchesTo 14 = .ok (.invokevirtual 133, 3) := by decide +kernel
theorem dX7_bunchesTo_17 : decode cX7_bunchesTo 17 = .ok (.ifCond .eq 15, 3) := by decide +kernel
theorem dX7_bunchesTo_20 : decode cX7_bunchesTo 20 = .ok (.aload_n 0, 1) := by decide +kernel
theorem dX7_bunchesTo_21 : decode cX7_bunchesTo 21 = .ok (.iload_n 3, 1) := by decide +kernel
theorem dX7_bunchesTo_22 : decode cX7_bunchesTo 22 = .ok (.invokevirtual 133, 3) := by decide +kernel
theorem dX7_bunchesTo_25 : decode cX7_bunchesTo 25 = .ok (.ifCond .ne 7, 3) := by decide +kernel
theorem dX7_bunchesTo_28 : decode cX7_bunchesTo 28 = .ok (.iconst 1, 1) := by decide +kernel
theorem dX7_bunchesTo_29 : decode cX7_bunchesTo 29 = .ok (.goto 4, 3) := by decide +kernel
theorem dX7_bunchesTo_32 : decode cX7_bunchesTo 32 = .ok (.iconst 0, 1) := by decide +kernel
theorem dX7_bunchesTo_33 : decode cX7_bunchesTo 33 = .ok (.iadd, 1) := by decide +kernel
theorem dX7_bunchesTo_34 : decode cX7_bunchesTo 34 = .ok (.istore_n 2, 1) := by decide +kernel
theorem dX7_bunchesTo_35 : decode cX7_bunchesTo 35 = .ok (.iinc 3 1, 3) := by decide +kernel
theorem dX7_bunchesTo_38 : decode cX7_bunchesTo 38 = .ok (.goto (-34), 3) := by decide +kernel
theorem dX7_bunchesTo_41 : decode cX7_bunchesTo 41 = .ok (.iload_n 2, 1) := by decide +kernel
theorem dX7_bunchesTo_42 : decode cX7_bunchesTo 42 = .ok (.ireturn, 1) := by decide +kernel
theorem dX7_cell_0 : decode cX7_cell 0 = .ok (.aload_n 0, 1) := by decide +kernel
theorem dX7_cell_1 : decode cX7_cell 1 = .ok (.iload_n 1, 1) := by decide +kernel
theorem dX7_cell_2 : decode cX7_cell 2 = .ok (.invokevirtual 107, 3) := by decide +kernel
theorem dX7_cell_5 : decode cX7_cell 5 = .ok (.ifCond .ne 5, 3) := by decide +kernel
theorem dX7_cell_8 : decode cX7_cell 8 = .ok (.iconst (-1), 1) := by decide +kernel
theorem dX7_cell_9 : decode cX7_cell 9 = .ok (.ireturn, 1) := by decide +kernel
theorem dX7_cell_10 : decode cX7_cell 10 = .ok (.iload_n 2, 1) := by decide +kernel
theorem dX7_cell_11 : decode cX7_cell 11 = .ok (.tableswitch 106 0 6 #[41, 48, 58, 58, 67, 73, 87], 41) := by decide +kernel
theorem dX7_cell_52 : decode cX7_cell 52 = .ok (.aload_n 0, 1) := by decide +kernel
theorem dX7_cell_53 : decode cX7_cell 53 = .ok (.getfield 16, 3) := by decide +kernel
theorem dX7_cell_56 : decode cX7_cell 56 = .ok (.iload_n 1, 1) := by decide +kernel
theorem dX7_cell_57 : decode cX7_cell 57 = .ok (.iaload, 1) := by decide +kernel
theorem dX7_cell_58 : decode cX7_cell 58 = .ok (.ireturn, 1) := by decide +kernel
theorem dX7_cell_59 : decode cX7_cell 59 = .ok (.aload_n 0, 1) := by decide +kernel
theorem dX7_cell_60 : decode cX7_cell 60 = .ok (.getfield 16, 3) := by decide +kernel
theorem dX7_cell_63 : decode cX7_cell 63 = .ok (.bipush 48, 2) := by decide +kernel
theorem dX7_cell_65 : decode cX7_cell 65 = .ok (.iload_n 1, 1) := by decide +kernel
theorem dX7_cell_66 : decode cX7_cell 66 = .ok (.iadd, 1) := by decide +kernel
theorem dX7_cell_67 : decode cX7_cell 67 = .ok (.iaload, 1) := by decide +kernel
theorem dX7_cell_68 : decode cX7_cell 68 = .ok (.ireturn, 1) := by decide +kernel
theorem dX7_cell_69 : decode cX7_cell 69 = .ok (.aload_n 0, 1) := by decide +kernel
theorem dX7_cell_70 : decode cX7_cell 70 = .ok (.iload_n 1, 1) := by decide +kernel
theorem dX7_cell_71 : decode cX7_cell 71 = .ok (.iload_n 2, 1) := by decide +kernel
theorem dX7_cell_72 : decode cX7_cell 72 = .ok (.iconst 2, 1) := by decide +kernel
theorem dX7_cell_73 : decode cX7_cell 73 = .ok (.isub, 1) := by decide +kernel
theorem dX7_cell_74 : decode cX7_cell 74 = .ok (.invokevirtual 124, 3) := by decide +kernel
theorem dX7_cell_77 : decode cX7_cell 77 = .ok (.ireturn, 1) := by decide +kernel
theorem dX7_cell_78 : decode cX7_cell 78 = .ok (.aload_n 0, 1) := by decide +kernel
theorem dX7_cell_79 : decode cX7_cell 79 = .ok (.iload_n 1, 1) := by decide +kernel
theorem dX7_cell_80 : decode cX7_cell 80 = .ok (.invokevirtual 130, 3) := by decide +kernel
theorem dX7_cell_83 : decode cX7_cell 83 = .ok (.ireturn, 1) := by decide +kernel
theorem dX7_cell_84 : decode cX7_cell 84 = .ok (.aload_n 0, 1) := by decide +kernel
theorem dX7_cell_85 : decode cX7_cell 85 = .ok (.iload_n 1, 1) := by decide +kernel
theorem dX7_cell_86 : decode cX7_cell 86 = .ok (.invokevirtual 133, 3) := by decide +kernel
theorem dX7_cell_89 : decode cX7_cell 89 = .ok (.ifCond .eq 7, 3) := by decide +kernel
theorem dX7_cell_92 : decode cX7_cell 92 = .ok (.iconst 1, 1) := by decide +kernel
theorem dX7_cell_93 : decode cX7_cell 93 = .ok (.goto 4, 3) := by decide +kernel
theorem dX7_cell_96 : decode cX7_cell 96 = .ok (.iconst 0, 1) := by decide +kernel
theorem dX7_cell_97 : decode cX7_cell 97 = .ok (.ireturn, 1) := by decide +kernel
theorem dX7_cell_98 : decode cX7_cell 98 = .ok (.aload_n 0, 1) := by decide +kernel
theorem dX7_cell_99 : decode cX7_cell 99 = .ok (.iload_n 1, 1) := by decide +kernel
theorem dX7_cell_100 : decode cX7_cell 100 = .ok (.invokevirtual 133, 3) := by decide +kernel
theorem dX7_cell_103 : decode cX7_cell 103 = .ok (.ifCond .eq 11, 3) := by decide +kernel
theorem dX7_cell_106 : decode cX7_cell 106 = .ok (.aload_n 0, 1) := by decide +kernel
theorem dX7_cell_107 : decode cX7_cell 107 = .ok (.iload_n 1, 1) := by decide +kernel
theorem dX7_cell_108 : decode cX7_cell 108 = .ok (.invokevirtual 136, 3) := by decide +kernel
theorem dX7_cell_111 : decode cX7_cell 111 = .ok (.goto 5, 3) := by decide +kernel
theorem dX7_cell_114 : decode cX7_cell 114 = .ok (.bipush (-4), 2) := by decide +kernel
theorem dX7_cell_116 : decode cX7_cell 116 = .ok (.ireturn, 1) := by decide +kernel
theorem dX7_cell_117 : decode cX7_cell 117 = .ok (.iconst (-1), 1) := by decide +kernel
theorem dX7_cell_118 : decode cX7_cell 118 = .ok (.ireturn, 1) := by decide +kernel
theorem dX7_ranked_0 : decode cX7_ranked 0 = .ok (.aload_n 0, 1) := by decide +kernel
theorem dX7_ranked_1 : decode cX7_ranked 1 = .ok (.iload_n 1, 1) := by decide +kernel
theorem dX7_ranked_2 : decode cX7_ranked 2 = .ok (.invokevirtual 107, 3) := by decide +kernel
theorem dX7_ranked_5 : decode cX7_ranked 5 = .ok (.ifCond .eq 17, 3) := by decide +kernel
theorem dX7_ranked_8 : decode cX7_ranked 8 = .ok (.iload_n 2, 1) := by decide +kernel
theorem dX7_ranked_9 : decode cX7_ranked 9 = .ok (.iconst 0, 1) := by decide +kernel
theorem dX7_ranked_10 : decode cX7_ranked 10 = .ok (.iconst 2, 1) := by decide +kernel
theorem dX7_ranked_11 : decode cX7_ranked 11 = .ok (.invokestatic 76, 3) := by decide +kernel
theorem dX7_ranked_14 : decode cX7_ranked 14 = .ok (.ifCond .eq 8, 3) := by decide +kernel
theorem dX7_ranked_17 : decode cX7_ranked 17 = .ok (.iload_n 3, 1) := by decide +kernel
theorem dX7_ranked_18 : decode cX7_ranked 18 = .ok (.iconst 1, 1) := by decide +kernel
theorem dX7_ranked_19 : decode cX7_ranked 19 = .ok (.if_icmp .ge 5, 3) := by decide +kernel
theorem dX7_ranked_22 : decode cX7_ranked 22 = .ok (.iconst (-1), 1) := by decide +kernel
theorem dX7_ranked_23 : decode cX7_ranked 23 = .ok (.ireturn, 1) := by decide +kernel
theorem dX7_ranked_24 : decode cX7_ranked 24 = .ok (.iload_n 3, 1) := by decide +kernel
theorem dX7_ranked_25 : decode cX7_ranked 25 = .ok (.aload_n 0, 1) := by decide +kernel
theorem dX7_ranked_26 : decode cX7_ranked 26 = .ok (.iload_n 1, 1) := by decide +kernel
theorem dX7_ranked_27 : decode cX7_ranked 27 = .ok (.iload_n 2, 1) := by decide +kernel
theorem dX7_ranked_28 : decode cX7_ranked 28 = .ok (.invokevirtual 124, 3) := by decide +kernel
theorem dX7_ranked_31 : decode cX7_ranked 31 = .ok (.if_icmp .gt 14, 3) := by decide +kernel
theorem dX7_ranked_34 : decode cX7_ranked 34 = .ok (.aload_n 0, 1) := by decide +kernel
theorem dX7_ranked_35 : decode cX7_ranked 35 = .ok (.getfield 28, 3) := by decide +kernel
theorem dX7_ranked_38 : decode cX7_ranked 38 = .ok (.iload_n 3, 1) := by decide +kernel
theorem dX7_ranked_39 : decode cX7_ranked 39 = .ok (.iconst 1, 1) := by decide +kernel
theorem dX7_ranked_40 : decode cX7_ranked 40 = .ok (.isub, 1) := by decide +kernel
theorem dX7_ranked_41 : decode cX7_ranked 41 = .ok (.iaload, 1) := by decide +kernel
theorem dX7_ranked_42 : decode cX7_ranked 42 = .ok (.goto 5, 3) := by decide +kernel
theorem dX7_ranked_45 : decode cX7_ranked 45 = .ok (.bipush (-4), 2) := by decide +kernel
theorem dX7_ranked_47 : decode cX7_ranked 47 = .ok (.ireturn, 1) := by decide +kernel
theorem dX7_hides1_0 : decode cX7_hides1 0 = .ok (.iload_n 1, 1) := by decide +kernel
theorem dX7_hides1_1 : decode cX7_hides1 1 = .ok (.iload_n 2, 1) := by decide +kernel
theorem dX7_hides1_2 : decode cX7_hides1 2 = .ok (.if_icmp .eq 24, 3) := by decide +kernel
theorem dX7_hides1_5 : decode cX7_hides1 5 = .ok (.aload_n 0, 1) := by decide +kernel
theorem dX7_hides1_6 : decode cX7_hides1 6 = .ok (.getfield 16, 3) := by decide +kernel
theorem dX7_hides1_9 : decode cX7_hides1 9 = .ok (.bipush 48, 2) := by decide +kernel
theorem dX7_hides1_11 : decode cX7_hides1 11 = .ok (.iload_n 2, 1) := by decide +kernel
theorem dX7_hides1_12 : decode cX7_hides1 12 = .ok (.iadd, 1) := by decide +kernel
theorem dX7_hides1_13 : decode cX7_hides1 13 = .ok (.iaload, 1) := by decide +kernel
theorem dX7_hides1_14 : decode cX7_hides1 14 = .ok (.iconst 1, 1) := by decide +kernel
theorem dX7_hides1_15 : decode cX7_hides1 15 = .ok (.if_icmp .eq 11, 3) := by decide +kernel
theorem dX7_hides1_18 : decode cX7_hides1 18 = .ok (.aload_n 0, 1) := by decide +kernel
theorem dX7_hides1_19 : decode cX7_hides1 19 = .ok (.iload_n 2, 1) := by decide +kernel
theorem dX7_hides1_20 : decode cX7_hides1 20 = .ok (.invokevirtual 133, 3) := by decide +kernel
theorem dX7_hides1_23 : decode cX7_hides1 23 = .ok (.ifCond .eq 5, 3) := by decide +kernel
theorem dX7_hides1_26 : decode cX7_hides1 26 = .ok (.iconst 0, 1) := by decide +kernel
theorem dX7_hides1_27 : decode cX7_hides1 27 = .ok (.ireturn, 1) := by decide +kernel
theorem dX7_hides1_28 : decode cX7_hides1 28 = .ok (.aload_n 0, 1) := by decide +kernel
theorem dX7_hides1_29 : decode cX7_hides1 29 = .ok (.getfield 16, 3) := by decide +kernel
theorem dX7_hides1_32 : decode cX7_hides1 32 = .ok (.bipush 48, 2) := by decide +kernel
theorem dX7_hides1_34 : decode cX7_hides1 34 = .ok (.iload_n 1, 1) := by decide +kernel
theorem dX7_hides1_35 : decode cX7_hides1 35 = .ok (.iadd, 1) := by decide +kernel
theorem dX7_hides1_36 : decode cX7_hides1 36 = .ok (.iconst 1, 1) := by decide +kernel
theorem dX7_hides1_37 : decode cX7_hides1 37 = .ok (.iastore, 1) := by decide +kernel
theorem dX7_hides1_38 : decode cX7_hides1 38 = .ok (.aload_n 0, 1) := by decide +kernel
theorem dX7_hides1_39 : decode cX7_hides1 39 = .ok (.iload_n 2, 1) := by decide +kernel
theorem dX7_hides1_40 : decode cX7_hides1 40 = .ok (.invokevirtual 133, 3) := by decide +kernel
theorem dX7_hides1_43 : decode cX7_hides1 43 = .ok (.istore_n 3, 1) := by decide +kernel
theorem dX7_hides1_44 : decode cX7_hides1 44 = .ok (.aload_n 0, 1) := by decide +kernel
theorem dX7_hides1_45 : decode cX7_hides1 45 = .ok (.getfield 16, 3) := by decide +kernel
theorem dX7_hides1_48 : decode cX7_hides1 48 = .ok (.bipush 48, 2) := by decide +kernel
theorem dX7_hides1_50 : decode cX7_hides1 50 = .ok (.iload_n 1, 1) := by decide +kernel
theorem dX7_hides1_51 : decode cX7_hides1 51 = .ok (.iadd, 1) := by decide +kernel
theorem dX7_hides1_52 : decode cX7_hides1 52 = .ok (.iconst 0, 1) := by decide +kernel
theorem dX7_hides1_53 : decode cX7_hides1 53 = .ok (.iastore, 1) := by decide +kernel
theorem dX7_hides1_54 : decode cX7_hides1 54 = .ok (.iload_n 3, 1) := by decide +kernel
theorem dX7_hides1_55 : decode cX7_hides1 55 = .ok (.ireturn, 1) := by decide +kernel
theorem dX7_hides_0 : decode cX7_hides 0 = .ok (.aload_n 0, 1) := by decide +kernel
theorem dX7_hides_1 : decode cX7_hides 1 = .ok (.iload_n 1, 1) := by decide +kernel
theorem dX7_hides_2 : decode cX7_hides 2 = .ok (.invokevirtual 107, 3) := by decide +kernel
theorem dX7_hides_5 : decode cX7_hides 5 = .ok (.ifCond .eq 22, 3) := by decide +kernel
theorem dX7_hides_8 : decode cX7_hides 8 = .ok (.iload_n 2, 1) := by decide +kernel
theorem dX7_hides_9 : decode cX7_hides 9 = .ok (.iconst (-1), 1) := by decide +kernel
theorem dX7_hides_10 : decode cX7_hides 10 = .ok (.aload_n 0, 1) := by decide +kernel
theorem dX7_hides_11 : decode cX7_hides 11 = .ok (.getfield 48, 3) := by decide +kernel
theorem dX7_hides_14 : decode cX7_hides 14 = .ok (.iconst 1, 1) := by decide +kernel
theorem dX7_hides_15 : decode cX7_hides 15 = .ok (.isub, 1) := by decide +kernel
theorem dX7_hides_16 : decode cX7_hides 16 = .ok (.invokestatic 76, 3) := by decide +kernel
theorem dX7_hides_19 : decode cX7_hides 19 = .ok (.ifCond .eq 8, 3) := by decide +kernel
theorem dX7_hides_22 : decode cX7_hides 22 = .ok (.iload_n 1, 1) := by decide +kernel
theorem dX7_hides_23 : decode cX7_hides 23 = .ok (.iload_n 2, 1) := by decide +kernel
theorem dX7_hides_24 : decode cX7_hides 24 = .ok (.if_icmp .ne 5, 3) := by decide +kernel
theorem dX7_hides_27 : decode cX7_hides 27 = .ok (.iconst (-1), 1) := by decide +kernel
theorem dX7_hides_28 : decode cX7_hides 28 = .ok (.ireturn, 1) := by decide +kernel
theorem dX7_hides_29 : decode cX7_hides 29 = .ok (.aload_n 0, 1) := by decide +kernel
theorem dX7_hides_30 : decode cX7_hides 30 = .ok (.getfield 16, 3) := by decide +kernel
theorem dX7_hides_33 : decode cX7_hides 33 = .ok (.bipush 48, 2) := by decide +kernel
theorem dX7_hides_35 : decode cX7_hides 35 = .ok (.iload_n 1, 1) := by decide +kernel
theorem dX7_hides_36 : decode cX7_hides 36 = .ok (.iadd, 1) := by decide +kernel
theorem dX7_hides_37 : decode cX7_hides 37 = .ok (.iaload, 1) := by decide +kernel
theorem dX7_hides_38 : decode cX7_hides 38 = .ok (.iconst 1, 1) := by decide +kernel
theorem dX7_hides_39 : decode cX7_hides 39 = .ok (.if_icmp .eq 20, 3) := by decide +kernel
theorem dX7_hides_42 : decode cX7_hides 42 = .ok (.iload_n 2, 1) := by decide +kernel
theorem dX7_hides_43 : decode cX7_hides 43 = .ok (.ifCond .lt 19, 3) := by decide +kernel
theorem dX7_hides_46 : decode cX7_hides 46 = .ok (.aload_n 0, 1) := by decide +kernel
theorem dX7_hides_47 : decode cX7_hides 47 = .ok (.getfield 16, 3) := by decide +kernel
theorem dX7_hides_50 : decode cX7_hides 50 = .ok (.bipush 48, 2) := by decide +kernel
theorem dX7_hides_52 : decode cX7_hides 52 = .ok (.iload_n 2, 1) := by decide +kernel
theorem dX7_hides_53 : decode cX7_hides 53 = .ok (.iadd, 1) := by decide +kernel
theorem dX7_hides_54 : decode cX7_hides 54 = .ok (.iaload, 1) := by decide +kernel
theorem dX7_hides_55 : decode cX7_hides 55 = .ok (.iconst 1, 1) := by decide +kernel
theorem dX7_hides_56 : decode cX7_hides 56 = .ok (.if_icmp .ne 6, 3) := by decide +kernel
theorem dX7_hides_59 : decode cX7_hides 59 = .ok (.bipush (-2), 2) := by decide +kernel
theorem dX7_hides_61 : decode cX7_hides 61 = .ok (.ireturn, 1) := by decide +kernel
theorem dX7_hides_62 : decode cX7_hides 62 = .ok (.iconst 0, 1) := by decide +kernel
theorem dX7_hides_63 : decode cX7_hides 63 = .ok (.istore_n 3, 1) := by decide +kernel
theorem dX7_hides_64 : decode cX7_hides 64 = .ok (.iload_n 2, 1) := by decide +kernel
theorem dX7_hides_65 : decode cX7_hides 65 = .ok (.ifCond .ge 7, 3) := by decide +kernel
theorem dX7_hides_68 : decode cX7_hides 68 = .ok (.iconst 0, 1) := by decide +kernel
theorem dX7_hides_69 : decode cX7_hides 69 = .ok (.goto 4, 3) := by decide +kernel
theorem dX7_hides_72 : decode cX7_hides 72 = .ok (.iload_n 2, 1) := by decide +kernel
theorem dX7_hides_73 : decode cX7_hides 73 = .ok (.istore 4, 2) := by decide +kernel
theorem dX7_hides_75 : decode cX7_hides 75 = .ok (.iload 4, 2) := by decide +kernel
theorem dX7_hides_77 : decode cX7_hides 77 = .ok (.iload_n 2, 1) := by decide +kernel
theorem dX7_hides_78 : decode cX7_hides 78 = .ok (.ifCond .ge 10, 3) := by decide +kernel
theorem dX7_hides_81 : decode cX7_hides 81 = .ok (.aload_n 0, 1) := by decide +kernel
theorem dX7_hides_82 : decode cX7_hides 82 = .ok (.getfield 48, 3) := by decide +kernel
theorem dX7_hides_85 : decode cX7_hides 85 = .ok (.goto 6, 3) := by decide +kernel
theorem dX7_hides_88 : decode cX7_hides 88 = .ok (.iload_n 2, 1) := by decide +kernel
theorem dX7_hides_89 : decode cX7_hides 89 = .ok (.iconst 1, 1) := by decide +kernel
theorem dX7_hides_90 : decode cX7_hides 90 = .ok (.iadd, 1) := by decide +kernel
theorem dX7_hides_91 : decode cX7_hides 91 = .ok (.if_icmp .ge 27, 3) := by decide +kernel
theorem dX7_hides_94 : decode cX7_hides 94 = .ok (.iload_n 3, 1) := by decide +kernel
theorem dX7_hides_95 : decode cX7_hides 95 = .ok (.aload_n 0, 1) := by decide +kernel
theorem dX7_hides_96 : decode cX7_hides 96 = .ok (.iload_n 1, 1) := by decide +kernel
theorem dX7_hides_97 : decode cX7_hides 97 = .ok (.iload 4, 2) := by decide +kernel
theorem dX7_hides_99 : decode cX7_hides 99 = .ok (.invokevirtual 139, 3) := by decide +kernel
theorem dX7_hides_102 : decode cX7_hides 102 = .ok (.ifCond .eq 7, 3) := by decide +kernel
theorem dX7_hides_105 : decode cX7_hides 105 = .ok (.iconst 1, 1) := by decide +kernel
theorem dX7_hides_106 : decode cX7_hides 106 = .ok (.goto 4, 3) := by decide +kernel
theorem dX7_hides_109 : decode cX7_hides 109 = .ok (.iconst 0, 1) := by decide +kernel
theorem dX7_hides_110 : decode cX7_hides 110 = .ok (.iadd, 1) := by decide +kernel
theorem dX7_hides_111 : decode cX7_hides 111 = .ok (.istore_n 3, 1) := by decide +kernel
theorem dX7_hides_112 : decode cX7_hides 112 = .ok (.iinc 4 1, 3) := by decide +kernel
theorem dX7_hides_115 : decode cX7_hides 115 = .ok (.goto (-40), 3) := by decide +kernel
theorem dX7_hides_118 : decode cX7_hides 118 = .ok (.iload_n 3, 1) := by decide +kernel
theorem dX7_hides_119 : decode cX7_hides 119 = .ok (.ireturn, 1) := by decide +kernel
theorem dX7_bunches_0 : decode cX7_bunches 0 = .ok (.iconst 0, 1) := by decide +kernel
theorem dX7_bunches_1 : decode cX7_bunches 1 = .ok (.istore_n 1, 1) := by decide +kernel
theorem dX7_bunches_2 : decode cX7_bunches 2 = .ok (.iconst 0, 1) := by decide +kernel
theorem dX7_bunches_3 : decode cX7_bunches 3 = .ok (.istore_n 2, 1) := by decide +kernel
theorem dX7_bunches_4 : decode cX7_bunches 4 = .ok (.iload_n 2, 1) := by decide +kernel
theorem dX7_bunches_5 : decode cX7_bunches 5 = .ok (.aload_n 0, 1) := by decide +kernel
theorem dX7_bunches_6 : decode cX7_bunches 6 = .ok (.getfield 48, 3) := by decide +kernel
theorem dX7_bunches_9 : decode cX7_bunches 9 = .ok (.if_icmp .ge 39, 3) := by decide +kernel
theorem dX7_bunches_12 : decode cX7_bunches 12 = .ok (.iload_n 1, 1) := by decide +kernel
theorem dX7_bunches_13 : decode cX7_bunches 13 = .ok (.aload_n 0, 1) := by decide +kernel
theorem dX7_bunches_14 : decode cX7_bunches 14 = .ok (.iload_n 2, 1) := by decide +kernel
theorem dX7_bunches_15 : decode cX7_bunches 15 = .ok (.invokevirtual 133, 3) := by decide +kernel
theorem dX7_bunches_18 : decode cX7_bunches 18 = .ok (.ifCond .eq 21, 3) := by decide +kernel
theorem dX7_bunches_21 : decode cX7_bunches 21 = .ok (.iload_n 2, 1) := by decide +kernel
theorem dX7_bunches_22 : decode cX7_bunches 22 = .ok (.ifCond .eq 13, 3) := by decide +kernel
theorem dX7_bunches_25 : decode cX7_bunches 25 = .ok (.aload_n 0, 1) := by decide +kernel
theorem dX7_bunches_26 : decode cX7_bunches 26 = .ok (.iload_n 2, 1) := by decide +kernel
theorem dX7_bunches_27 : decode cX7_bunches 27 = .ok (.iconst 1, 1) := by decide +kernel
theorem dX7_bunches_28 : decode cX7_bunches 28 = .ok (.isub, 1) := by decide +kernel
theorem dX7_bunches_29 : decode cX7_bunches 29 = .ok (.invokevirtual 133, 3) := by decide +kernel
theorem dX7_bunches_32 : decode cX7_bunches 32 = .ok (.ifCond .ne 7, 3) := by decide +kernel
theorem dX7_bunches_35 : decode cX7_bunches 35 = .ok (.iconst 1, 1) := by decide +kernel
theorem dX7_bunches_36 : decode cX7_bunches 36 = .ok (.goto 4, 3) := by decide +kernel
theorem dX7_bunches_39 : decode cX7_bunches 39 = .ok (.iconst 0, 1) := by decide +kernel
theorem dX7_bunches_40 : decode cX7_bunches 40 = .ok (.iadd, 1) := by decide +kernel
theorem dX7_bunches_41 : decode cX7_bunches 41 = .ok (.istore_n 1, 1) := by decide +kernel
theorem dX7_bunches_42 : decode cX7_bunches 42 = .ok (.iinc 2 1, 3) := by decide +kernel
theorem dX7_bunches_45 : decode cX7_bunches 45 = .ok (.goto (-41), 3) := by decide +kernel
theorem dX7_bunches_48 : decode cX7_bunches 48 = .ok (.iload_n 1, 1) := by decide +kernel
theorem dX7_bunches_49 : decode cX7_bunches 49 = .ok (.ireturn, 1) := by decide +kernel
theorem dX7_firstOf_0 : decode cX7_firstOf 0 = .ok (.iconst (-1), 1) := by decide +kernel
theorem dX7_firstOf_1 : decode cX7_firstOf 1 = .ok (.istore_n 2, 1) := by decide +kernel
theorem dX7_firstOf_2 : decode cX7_firstOf 2 = .ok (.iconst (-1), 1) := by decide +kernel
theorem dX7_firstOf_3 : decode cX7_firstOf 3 = .ok (.istore_n 3, 1) := by decide +kernel
theorem dX7_firstOf_4 : decode cX7_firstOf 4 = .ok (.iload_n 2, 1) := by decide +kernel
theorem dX7_firstOf_5 : decode cX7_firstOf 5 = .ok (.iload_n 1, 1) := by decide +kernel
theorem dX7_firstOf_6 : decode cX7_firstOf 6 = .ok (.if_icmp .ge 39, 3) := by decide +kernel
theorem dX7_firstOf_9 : decode cX7_firstOf 9 = .ok (.iinc 3 1, 3) := by decide +kernel
theorem dX7_firstOf_12 : decode cX7_firstOf 12 = .ok (.iload_n 2, 1) := by decide +kernel
theorem dX7_firstOf_13 : decode cX7_firstOf 13 = .ok (.aload_n 0, 1) := by decide +kernel
theorem dX7_firstOf_14 : decode cX7_firstOf 14 = .ok (.iload_n 3, 1) := by decide +kernel
theorem dX7_firstOf_15 : decode cX7_firstOf 15 = .ok (.invokevirtual 133, 3) := by decide +kernel
theorem dX7_firstOf_18 : decode cX7_firstOf 18 = .ok (.ifCond .eq 21, 3) := by decide +kernel
theorem dX7_firstOf_21 : decode cX7_firstOf 21 = .ok (.iload_n 3, 1) := by decide +kernel
theorem dX7_firstOf_22 : decode cX7_firstOf 22 = .ok (.ifCond .eq 13, 3) := by decide +kernel
theorem dX7_firstOf_25 : decode cX7_firstOf 25 = .ok (.aload_n 0, 1) := by decide +kernel
theorem dX7_firstOf_26 : decode cX7_firstOf 26 = .ok (.iload_n 3, 1) := by decide +kernel
theorem dX7_firstOf_27 : decode cX7_firstOf 27 = .ok (.iconst 1, 1) := by decide +kernel
theorem dX7_firstOf_28 : decode cX7_firstOf 28 = .ok (.isub, 1) := by decide +kernel
theorem dX7_firstOf_29 : decode cX7_firstOf 29 = .ok (.invokevirtual 133, 3) := by decide +kernel
theorem dX7_firstOf_32 : decode cX7_firstOf 32 = .ok (.ifCond .ne 7, 3) := by decide +kernel
theorem dX7_firstOf_35 : decode cX7_firstOf 35 = .ok (.iconst 1, 1) := by decide +kernel
theorem dX7_firstOf_36 : decode cX7_firstOf 36 = .ok (.goto 4, 3) := by decide +kernel
theorem dX7_firstOf_39 : decode cX7_firstOf 39 = .ok (.iconst 0, 1) := by decide +kernel
theorem dX7_firstOf_40 : decode cX7_firstOf 40 = .ok (.iadd, 1) := by decide +kernel
theorem dX7_firstOf_41 : decode cX7_firstOf 41 = .ok (.istore_n 2, 1) := by decide +kernel
theorem dX7_firstOf_42 : decode cX7_firstOf 42 = .ok (.goto (-38), 3) := by decide +kernel
theorem dX7_firstOf_45 : decode cX7_firstOf 45 = .ok (.iload_n 3, 1) := by decide +kernel
theorem dX7_firstOf_46 : decode cX7_firstOf 46 = .ok (.ireturn, 1) := by decide +kernel
theorem dX7_lastFrom_0 : decode cX7_lastFrom 0 = .ok (.iload_n 1, 1) := by decide +kernel
theorem dX7_lastFrom_1 : decode cX7_lastFrom 1 = .ok (.istore_n 2, 1) := by decide +kernel
theorem dX7_lastFrom_2 : decode cX7_lastFrom 2 = .ok (.iload_n 2, 1) := by decide +kernel
theorem dX7_lastFrom_3 : decode cX7_lastFrom 3 = .ok (.iconst 1, 1) := by decide +kernel
theorem dX7_lastFrom_4 : decode cX7_lastFrom 4 = .ok (.iadd, 1) := by decide +kernel
theorem dX7_lastFrom_5 : decode cX7_lastFrom 5 = .ok (.aload_n 0, 1) := by decide +kernel
theorem dX7_lastFrom_6 : decode cX7_lastFrom 6 = .ok (.getfield 48, 3) := by decide +kernel
theorem dX7_lastFrom_9 : decode cX7_lastFrom 9 = .ok (.if_icmp .ge 19, 3) := by decide +kernel
theorem dX7_lastFrom_12 : decode cX7_lastFrom 12 = .ok (.aload_n 0, 1) := by decide +kernel
theorem dX7_lastFrom_13 : decode cX7_lastFrom 13 = .ok (.iload_n 2, 1) := by decide +kernel
theorem dX7_lastFrom_14 : decode cX7_lastFrom 14 = .ok (.iconst 1, 1) := by decide +kernel
theorem dX7_lastFrom_15 : decode cX7_lastFrom 15 = .ok (.iadd, 1) := by decide +kernel
theorem dX7_lastFrom_16 : decode cX7_lastFrom 16 = .ok (.invokevirtual 133, 3) := by decide +kernel
theorem dX7_lastFrom_19 : decode cX7_lastFrom 19 = .ok (.ifCond .eq 9, 3) := by decide +kernel
theorem dX7_lastFrom_22 : decode cX7_lastFrom 22 = .ok (.iinc 2 1, 3) := by decide +kernel
theorem dX7_lastFrom_25 : decode cX7_lastFrom 25 = .ok (.goto (-23), 3) := by decide +kernel
theorem dX7_lastFrom_28 : decode cX7_lastFrom 28 = .ok (.iload_n 2, 1) := by decide +kernel
theorem dX7_lastFrom_29 : decode cX7_lastFrom 29 = .ok (.ireturn, 1) := by decide +kernel
theorem dX7_peak_0 : decode cX7_peak 0 = .ok (.aload_n 0, 1) := by decide +kernel
theorem dX7_peak_1 : decode cX7_peak 1 = .ok (.iload_n 1, 1) := by decide +kernel
theorem dX7_peak_2 : decode cX7_peak 2 = .ok (.invokevirtual 143, 3) := by decide +kernel
theorem dX7_peak_5 : decode cX7_peak 5 = .ok (.istore_n 2, 1) := by decide +kernel
theorem dX7_peak_6 : decode cX7_peak 6 = .ok (.iload_n 1, 1) := by decide +kernel
theorem dX7_peak_7 : decode cX7_peak 7 = .ok (.istore_n 3, 1) := by decide +kernel
theorem dX7_peak_8 : decode cX7_peak 8 = .ok (.iload_n 1, 1) := by decide +kernel
theorem dX7_peak_9 : decode cX7_peak 9 = .ok (.istore 4, 2) := by decide +kernel
theorem dX7_peak_11 : decode cX7_peak 11 = .ok (.iload 4, 2) := by decide +kernel
theorem dX7_peak_13 : decode cX7_peak 13 = .ok (.iload_n 2, 1) := by decide +kernel
theorem dX7_peak_14 : decode cX7_peak 14 = .ok (.if_icmp .gt 32, 3) := by decide +kernel
theorem dX7_peak_17 : decode cX7_peak 17 = .ok (.aload_n 0, 1) := by decide +kernel
theorem dX7_peak_18 : decode cX7_peak 18 = .ok (.getfield 16, 3) := by decide +kernel
theorem dX7_peak_21 : decode cX7_peak 21 = .ok (.iload 4, 2) := by decide +kernel
theorem dX7_peak_23 : decode cX7_peak 23 = .ok (.iaload, 1) := by decide +kernel
theorem dX7_peak_24 : decode cX7_peak 24 = .ok (.aload_n 0, 1) := by decide +kernel
theorem dX7_peak_25 : decode cX7_peak 25 = .ok (.getfield 16, 3) := by decide +kernel
theorem dX7_peak_28 : decode cX7_peak 28 = .ok (.iload_n 3, 1) := by decide +kernel
theorem dX7_peak_29 : decode cX7_peak 29 = .ok (.iaload, 1) := by decide +kernel
theorem dX7_peak_30 : decode cX7_peak 30 = .ok (.if_icmp .le 8, 3) := by decide +kernel
theorem dX7_peak_33 : decode cX7_peak 33 = .ok (.iload 4, 2) := by decide +kernel
theorem dX7_peak_35 : decode cX7_peak 35 = .ok (.goto 4, 3) := by decide +kernel
theorem dX7_peak_38 : decode cX7_peak 38 = .ok (.iload_n 3, 1) := by decide +kernel
theorem dX7_peak_39 : decode cX7_peak 39 = .ok (.istore_n 3, 1) := by decide +kernel
theorem dX7_peak_40 : decode cX7_peak 40 = .ok (.iinc 4 1, 3) := by decide +kernel
theorem dX7_peak_43 : decode cX7_peak 43 = .ok (.goto (-32), 3) := by decide +kernel
theorem dX7_peak_46 : decode cX7_peak 46 = .ok (.iload_n 3, 1) := by decide +kernel
theorem dX7_peak_47 : decode cX7_peak 47 = .ok (.ireturn, 1) := by decide +kernel
theorem dX7_bunch_0 : decode cX7_bunch 0 = .ok (.iload_n 1, 1) := by decide +kernel
theorem dX7_bunch_1 : decode cX7_bunch 1 = .ok (.iconst (-1), 1) := by decide +kernel
theorem dX7_bunch_2 : decode cX7_bunch 2 = .ok (.if_icmp .lt 12, 3) := by decide +kernel
theorem dX7_bunch_5 : decode cX7_bunch 5 = .ok (.iload_n 2, 1) := by decide +kernel
theorem dX7_bunch_6 : decode cX7_bunch 6 = .ok (.iconst 0, 1) := by decide +kernel
theorem dX7_bunch_7 : decode cX7_bunch 7 = .ok (.iconst 2, 1) := by decide +kernel
theorem dX7_bunch_8 : decode cX7_bunch 8 = .ok (.invokestatic 76, 3) := by decide +kernel
theorem dX7_bunch_11 : decode cX7_bunch 11 = .ok (.ifCond .ne 5, 3) := by decide +kernel
theorem dX7_bunch_14 : decode cX7_bunch 14 = .ok (.iconst (-1), 1) := by decide +kernel
theorem dX7_bunch_15 : decode cX7_bunch 15 = .ok (.ireturn, 1) := by decide +kernel
theorem dX7_bunch_16 : decode cX7_bunch 16 = .ok (.aload_n 0, 1) := by decide +kernel
theorem dX7_bunch_17 : decode cX7_bunch 17 = .ok (.invokevirtual 146, 3) := by decide +kernel
theorem dX7_bunch_20 : decode cX7_bunch 20 = .ok (.istore_n 3, 1) := by decide +kernel
theorem dX7_bunch_21 : decode cX7_bunch 21 = .ok (.iload_n 1, 1) := by decide +kernel
theorem dX7_bunch_22 : decode cX7_bunch 22 = .ok (.ifCond .lt 8, 3) := by decide +kernel
theorem dX7_bunch_25 : decode cX7_bunch 25 = .ok (.iload_n 1, 1) := by decide +kernel
theorem dX7_bunch_26 : decode cX7_bunch 26 = .ok (.iload_n 3, 1) := by decide +kernel
theorem dX7_bunch_27 : decode cX7_bunch 27 = .ok (.if_icmp .lt 14, 3) := by decide +kernel
theorem dX7_bunch_30 : decode cX7_bunch 30 = .ok (.iload_n 1, 1) := by decide +kernel
theorem dX7_bunch_31 : decode cX7_bunch 31 = .ok (.ifCond .ge 7, 3) := by decide +kernel
theorem dX7_bunch_34 : decode cX7_bunch 34 = .ok (.iload_n 3, 1) := by decide +kernel
theorem dX7_bunch_35 : decode cX7_bunch 35 = .ok (.goto 5, 3) := by decide +kernel
theorem dX7_bunch_38 : decode cX7_bunch 38 = .ok (.bipush (-4), 2) := by decide +kernel
theorem dX7_bunch_40 : decode cX7_bunch 40 = .ok (.ireturn, 1) := by decide +kernel
theorem dX7_bunch_41 : decode cX7_bunch 41 = .ok (.aload_n 0, 1) := by decide +kernel
theorem dX7_bunch_42 : decode cX7_bunch 42 = .ok (.iload_n 1, 1) := by decide +kernel
theorem dX7_bunch_43 : decode cX7_bunch 43 = .ok (.invokevirtual 149, 3) := by decide +kernel
theorem dX7_bunch_46 : decode cX7_bunch 46 = .ok (.istore 4, 2) := by decide +kernel
theorem dX7_bunch_48 : decode cX7_bunch 48 = .ok (.iload_n 2, 1) := by decide +kernel
theorem dX7_bunch_49 : decode cX7_bunch 49 = .ok (.ifCond .ne 8, 3) := by decide +kernel
theorem dX7_bunch_52 : decode cX7_bunch 52 = .ok (.iload 4, 2) := by decide +kernel
theorem dX7_bunch_54 : decode cX7_bunch 54 = .ok (.goto 23, 3) := by decide +kernel
theorem dX7_bunch_57 : decode cX7_bunch 57 = .ok (.iload_n 2, 1) := by decide +kernel
theorem dX7_bunch_58 : decode cX7_bunch 58 = .ok (.iconst 1, 1) := by decide +kernel
theorem dX7_bunch_59 : decode cX7_bunch 59 = .ok (.if_icmp .ne 12, 3) := by decide +kernel
theorem dX7_bunch_62 : decode cX7_bunch 62 = .ok (.aload_n 0, 1) := by decide +kernel
theorem dX7_bunch_63 : decode cX7_bunch 63 = .ok (.iload 4, 2) := by decide +kernel
theorem dX7_bunch_65 : decode cX7_bunch 65 = .ok (.invokevirtual 143, 3) := by decide +kernel
theorem dX7_bunch_68 : decode cX7_bunch 68 = .ok (.goto 9, 3) := by decide +kernel
theorem dX7_bunch_71 : decode cX7_bunch 71 = .ok (.aload_n 0, 1) := by decide +kernel
theorem dX7_bunch_72 : decode cX7_bunch 72 = .ok (.iload 4, 2) := by decide +kernel
theorem dX7_bunch_74 : decode cX7_bunch 74 = .ok (.invokevirtual 152, 3) := by decide +kernel
theorem dX7_bunch_77 : decode cX7_bunch 77 = .ok (.ireturn, 1) := by decide +kernel
theorem dX7_enough_0 : decode cX7_enough 0 = .ok (.iload_n 1, 1) := by decide +kernel
theorem dX7_enough_1 : decode cX7_enough 1 = .ok (.iconst 0, 1) := by decide +kernel
theorem dX7_enough_2 : decode cX7_enough 2 = .ok (.bipush 48, 2) := by decide +kernel
theorem dX7_enough_4 : decode cX7_enough 4 = .ok (.invokestatic 76, 3) := by decide +kernel
theorem dX7_enough_7 : decode cX7_enough 7 = .ok (.ifCond .ne 5, 3) := by decide +kernel
theorem dX7_enough_10 : decode cX7_enough 10 = .ok (.iconst (-1), 1) := by decide +kernel
theorem dX7_enough_11 : decode cX7_enough 11 = .ok (.ireturn, 1) := by decide +kernel
theorem dX7_enough_12 : decode cX7_enough 12 = .ok (.aload_n 0, 1) := by decide +kernel
theorem dX7_enough_13 : decode cX7_enough 13 = .ok (.getfield 16, 3) := by decide +kernel
theorem dX7_enough_16 : decode cX7_enough 16 = .ok (.bipush 99, 2) := by decide +kernel
theorem dX7_enough_18 : decode cX7_enough 18 = .ok (.iaload, 1) := by decide +kernel
theorem dX7_enough_19 : decode cX7_enough 19 = .ok (.istore_n 2, 1) := by decide +kernel
theorem dX7_enough_20 : decode cX7_enough 20 = .ok (.bipush (-4), 2) := by decide +kernel
theorem dX7_enough_22 : decode cX7_enough 22 = .ok (.istore_n 3, 1) := by decide +kernel
theorem dX7_enough_23 : decode cX7_enough 23 = .ok (.bipush 40, 2) := by decide +kernel
theorem dX7_enough_25 : decode cX7_enough 25 = .ok (.istore 4, 2) := by decide +kernel
theorem dX7_enough_27 : decode cX7_enough 27 = .ok (.iload 4, 2) := by decide +kernel
theorem dX7_enough_29 : decode cX7_enough 29 = .ok (.ifCond .le 33, 3) := by decide +kernel
theorem dX7_enough_32 : decode cX7_enough 32 = .ok (.aload_n 0, 1) := by decide +kernel
theorem dX7_enough_33 : decode cX7_enough 33 = .ok (.getfield 16, 3) := by decide +kernel
theorem dX7_enough_36 : decode cX7_enough 36 = .ok (.bipush 99, 2) := by decide +kernel
theorem dX7_enough_38 : decode cX7_enough 38 = .ok (.iload 4, 2) := by decide +kernel
theorem dX7_enough_40 : decode cX7_enough 40 = .ok (.iastore, 1) := by decide +kernel
theorem dX7_enough_41 : decode cX7_enough 41 = .ok (.aload_n 0, 1) := by decide +kernel
theorem dX7_enough_42 : decode cX7_enough 42 = .ok (.invokevirtual 155, 3) := by decide +kernel
theorem dX7_enough_45 : decode cX7_enough 45 = .ok (.iload_n 1, 1) := by decide +kernel
theorem dX7_enough_46 : decode cX7_enough 46 = .ok (.if_icmp .gt 8, 3) := by decide +kernel
theorem dX7_enough_49 : decode cX7_enough 49 = .ok (.iload 4, 2) := by decide +kernel
theorem dX7_enough_51 : decode cX7_enough 51 = .ok (.goto 4, 3) := by decide +kernel
theorem dX7_enough_54 : decode cX7_enough 54 = .ok (.iload_n 3, 1) := by decide +kernel
theorem dX7_enough_55 : decode cX7_enough 55 = .ok (.istore_n 3, 1) := by decide +kernel
theorem dX7_enough_56 : decode cX7_enough 56 = .ok (.iinc 4 (-1), 3) := by decide +kernel
theorem dX7_enough_59 : decode cX7_enough 59 = .ok (.goto (-32), 3) := by decide +kernel
theorem dX7_enough_62 : decode cX7_enough 62 = .ok (.aload_n 0, 1) := by decide +kernel
theorem dX7_enough_63 : decode cX7_enough 63 = .ok (.getfield 16, 3) := by decide +kernel
theorem dX7_enough_66 : decode cX7_enough 66 = .ok (.bipush 99, 2) := by decide +kernel
theorem dX7_enough_68 : decode cX7_enough 68 = .ok (.iload_n 2, 1) := by decide +kernel
theorem dX7_enough_69 : decode cX7_enough 69 = .ok (.iastore, 1) := by decide +kernel
theorem dX7_enough_70 : decode cX7_enough 70 = .ok (.iload_n 3, 1) := by decide +kernel
theorem dX7_enough_71 : decode cX7_enough 71 = .ok (.ireturn, 1) := by decide +kernel
theorem dX7_noise_0 : decode cX7_noise 0 = .ok (.iload_n 1, 1) := by decide +kernel
theorem dX7_noise_1 : decode cX7_noise 1 = .ok (.iconst 0, 1) := by decide +kernel
theorem dX7_noise_2 : decode cX7_noise 2 = .ok (.bipush 99, 2) := by decide +kernel
theorem dX7_noise_4 : decode cX7_noise 4 = .ok (.invokestatic 76, 3) := by decide +kernel
theorem dX7_noise_7 : decode cX7_noise 7 = .ok (.ifCond .eq 22, 3) := by decide +kernel
theorem dX7_noise_10 : decode cX7_noise 10 = .ok (.iload_n 1, 1) := by decide +kernel
theorem dX7_noise_11 : decode cX7_noise 11 = .ok (.bipush 8, 2) := by decide +kernel
theorem dX7_noise_13 : decode cX7_noise 13 = .ok (.if_icmp .ge 12, 3) := by decide +kernel
theorem dX7_noise_16 : decode cX7_noise 16 = .ok (.aload_n 0, 1) := by decide +kernel
theorem dX7_noise_17 : decode cX7_noise 17 = .ok (.getfield 13, 3) := by decide +kernel
theorem dX7_noise_20 : decode cX7_noise 20 = .ok (.iload_n 1, 1) := by decide +kernel
theorem dX7_noise_21 : decode cX7_noise 21 = .ok (.iaload, 1) := by decide +kernel
theorem dX7_noise_22 : decode cX7_noise 22 = .ok (.goto 8, 3) := by decide +kernel
theorem dX7_noise_25 : decode cX7_noise 25 = .ok (.iconst 0, 1) := by decide +kernel
theorem dX7_noise_26 : decode cX7_noise 26 = .ok (.goto 4, 3) := by decide +kernel
theorem dX7_noise_29 : decode cX7_noise 29 = .ok (.iconst (-1), 1) := by decide +kernel
theorem dX7_noise_30 : decode cX7_noise 30 = .ok (.ireturn, 1) := by decide +kernel
theorem dX7_weight_0 : decode cX7_weight 0 = .ok (.iconst 0, 1) := by decide +kernel
theorem dX7_weight_1 : decode cX7_weight 1 = .ok (.istore_n 1, 1) := by decide +kernel
theorem dX7_weight_2 : decode cX7_weight 2 = .ok (.iconst 0, 1) := by decide +kernel
theorem dX7_weight_3 : decode cX7_weight 3 = .ok (.istore_n 2, 1) := by decide +kernel
theorem dX7_weight_4 : decode cX7_weight 4 = .ok (.iload_n 2, 1) := by decide +kernel
theorem dX7_weight_5 : decode cX7_weight 5 = .ok (.bipush 8, 2) := by decide +kernel
theorem dX7_weight_7 : decode cX7_weight 7 = .ok (.if_icmp .ge 18, 3) := by decide +kernel
theorem dX7_weight_10 : decode cX7_weight 10 = .ok (.iload_n 1, 1) := by decide +kernel
theorem dX7_weight_11 : decode cX7_weight 11 = .ok (.aload_n 0, 1) := by decide +kernel
theorem dX7_weight_12 : decode cX7_weight 12 = .ok (.getfield 13, 3) := by decide +kernel
theorem dX7_weight_15 : decode cX7_weight 15 = .ok (.iload_n 2, 1) := by decide +kernel
theorem dX7_weight_16 : decode cX7_weight 16 = .ok (.iaload, 1) := by decide +kernel
theorem dX7_weight_17 : decode cX7_weight 17 = .ok (.iadd, 1) := by decide +kernel
theorem dX7_weight_18 : decode cX7_weight 18 = .ok (.istore_n 1, 1) := by decide +kernel
theorem dX7_weight_19 : decode cX7_weight 19 = .ok (.iinc 2 1, 3) := by decide +kernel
theorem dX7_weight_22 : decode cX7_weight 22 = .ok (.goto (-18), 3) := by decide +kernel
theorem dX7_weight_25 : decode cX7_weight 25 = .ok (.iload_n 1, 1) := by decide +kernel
theorem dX7_weight_26 : decode cX7_weight 26 = .ok (.ireturn, 1) := by decide +kernel
theorem dX7_power1_0 : decode cX7_power1 0 = .ok (.lconst 1, 1) := by decide +kernel
theorem dX7_power1_1 : decode cX7_power1 1 = .ok (.lstore_n 3, 1) := by decide +kernel
theorem dX7_power1_2 : decode cX7_power1 2 = .ok (.iconst 0, 1) := by decide +kernel
theorem dX7_power1_3 : decode cX7_power1 3 = .ok (.istore 5, 2) := by decide +kernel
theorem dX7_power1_5 : decode cX7_power1 5 = .ok (.iload 5, 2) := by decide +kernel
theorem dX7_power1_7 : decode cX7_power1 7 = .ok (.iload_n 2, 1) := by decide +kernel
theorem dX7_power1_8 : decode cX7_power1 8 = .ok (.if_icmp .ge 13, 3) := by decide +kernel
theorem dX7_power1_11 : decode cX7_power1 11 = .ok (.lload_n 3, 1) := by decide +kernel
theorem dX7_power1_12 : decode cX7_power1 12 = .ok (.lload_n 0, 1) := by decide +kernel
theorem dX7_power1_13 : decode cX7_power1 13 = .ok (.lmul, 1) := by decide +kernel
theorem dX7_power1_14 : decode cX7_power1 14 = .ok (.lstore_n 3, 1) := by decide +kernel
theorem dX7_power1_15 : decode cX7_power1 15 = .ok (.iinc 5 1, 3) := by decide +kernel
theorem dX7_power1_18 : decode cX7_power1 18 = .ok (.goto (-13), 3) := by decide +kernel
theorem dX7_power1_21 : decode cX7_power1 21 = .ok (.lload_n 3, 1) := by decide +kernel
theorem dX7_power1_22 : decode cX7_power1 22 = .ok (.lreturn, 1) := by decide +kernel
theorem dX7_choose_0 : decode cX7_choose 0 = .ok (.lconst 1, 1) := by decide +kernel
theorem dX7_choose_1 : decode cX7_choose 1 = .ok (.lstore_n 2, 1) := by decide +kernel
theorem dX7_choose_2 : decode cX7_choose 2 = .ok (.iconst 0, 1) := by decide +kernel
theorem dX7_choose_3 : decode cX7_choose 3 = .ok (.istore 4, 2) := by decide +kernel
theorem dX7_choose_5 : decode cX7_choose 5 = .ok (.iload 4, 2) := by decide +kernel
theorem dX7_choose_7 : decode cX7_choose 7 = .ok (.iload_n 1, 1) := by decide +kernel
theorem dX7_choose_8 : decode cX7_choose 8 = .ok (.if_icmp .ge 23, 3) := by decide +kernel
theorem dX7_choose_11 : decode cX7_choose 11 = .ok (.lload_n 2, 1) := by decide +kernel
theorem dX7_choose_12 : decode cX7_choose 12 = .ok (.iload_n 0, 1) := by decide +kernel
theorem dX7_choose_13 : decode cX7_choose 13 = .ok (.iload 4, 2) := by decide +kernel
theorem dX7_choose_15 : decode cX7_choose 15 = .ok (.isub, 1) := by decide +kernel
theorem dX7_choose_16 : decode cX7_choose 16 = .ok (.i2l, 1) := by decide +kernel
theorem dX7_choose_17 : decode cX7_choose 17 = .ok (.lmul, 1) := by decide +kernel
theorem dX7_choose_18 : decode cX7_choose 18 = .ok (.iload 4, 2) := by decide +kernel
theorem dX7_choose_20 : decode cX7_choose 20 = .ok (.iconst 1, 1) := by decide +kernel
theorem dX7_choose_21 : decode cX7_choose 21 = .ok (.iadd, 1) := by decide +kernel
theorem dX7_choose_22 : decode cX7_choose 22 = .ok (.i2l, 1) := by decide +kernel
theorem dX7_choose_23 : decode cX7_choose 23 = .ok (.ldiv, 1) := by decide +kernel
theorem dX7_choose_24 : decode cX7_choose 24 = .ok (.lstore_n 2, 1) := by decide +kernel
theorem dX7_choose_25 : decode cX7_choose 25 = .ok (.iinc 4 1, 3) := by decide +kernel
theorem dX7_choose_28 : decode cX7_choose 28 = .ok (.goto (-23), 3) := by decide +kernel
theorem dX7_choose_31 : decode cX7_choose 31 = .ok (.lload_n 2, 1) := by decide +kernel
theorem dX7_choose_32 : decode cX7_choose 32 = .ok (.lreturn, 1) := by decide +kernel
theorem dX7_within_0 : decode cX7_within 0 = .ok (.aload_n 0, 1) := by decide +kernel
theorem dX7_within_1 : decode cX7_within 1 = .ok (.getfield 16, 3) := by decide +kernel
theorem dX7_within_4 : decode cX7_within 4 = .ok (.bipush 98, 2) := by decide +kernel
theorem dX7_within_6 : decode cX7_within 6 = .ok (.iaload, 1) := by decide +kernel
theorem dX7_within_7 : decode cX7_within 7 = .ok (.iload_n 1, 1) := by decide +kernel
theorem dX7_within_8 : decode cX7_within 8 = .ok (.if_icmp .ge 13, 3) := by decide +kernel
theorem dX7_within_11 : decode cX7_within 11 = .ok (.aload_n 0, 1) := by decide +kernel
theorem dX7_within_12 : decode cX7_within 12 = .ok (.getfield 16, 3) := by decide +kernel
theorem dX7_within_15 : decode cX7_within 15 = .ok (.bipush 98, 2) := by decide +kernel
theorem dX7_within_17 : decode cX7_within 17 = .ok (.iaload, 1) := by decide +kernel
theorem dX7_within_18 : decode cX7_within 18 = .ok (.goto 4, 3) := by decide +kernel
theorem dX7_within_21 : decode cX7_within 21 = .ok (.iload_n 1, 1) := by decide +kernel
theorem dX7_within_22 : decode cX7_within 22 = .ok (.istore 4, 2) := by decide +kernel
theorem dX7_within_24 : decode cX7_within 24 = .ok (.aload_n 0, 1) := by decide +kernel
theorem dX7_within_25 : decode cX7_within 25 = .ok (.invokevirtual 158, 3) := by decide +kernel
theorem dX7_within_28 : decode cX7_within 28 = .ok (.i2l, 1) := by decide +kernel
theorem dX7_within_29 : decode cX7_within 29 = .ok (.lstore 5, 2) := by decide +kernel
theorem dX7_within_31 : decode cX7_within 31 = .ok (.lconst 0, 1) := by decide +kernel
theorem dX7_within_32 : decode cX7_within 32 = .ok (.lstore 7, 2) := by decide +kernel
theorem dX7_within_34 : decode cX7_within 34 = .ok (.iload 4, 2) := by decide +kernel
theorem dX7_within_36 : decode cX7_within 36 = .ok (.istore 9, 2) := by decide +kernel
theorem dX7_within_38 : decode cX7_within 38 = .ok (.iload 9, 2) := by decide +kernel
theorem dX7_within_40 : decode cX7_within 40 = .ok (.iload_n 1, 1) := by decide +kernel
theorem dX7_within_41 : decode cX7_within 41 = .ok (.if_icmp .gt 39, 3) := by decide +kernel
theorem dX7_within_44 : decode cX7_within 44 = .ok (.lload 7, 2) := by decide +kernel
theorem dX7_within_46 : decode cX7_within 46 = .ok (.iload_n 1, 1) := by decide +kernel
theorem dX7_within_47 : decode cX7_within 47 = .ok (.iload 9, 2) := by decide +kernel
theorem dX7_within_49 : decode cX7_within 49 = .ok (.invokestatic 161, 3) := by decide +kernel
theorem dX7_within_52 : decode cX7_within 52 = .ok (.lload_n 2, 1) := by decide +kernel
theorem dX7_within_53 : decode cX7_within 53 = .ok (.iload 9, 2) := by decide +kernel
theorem dX7_within_55 : decode cX7_within 55 = .ok (.invokestatic 165, 3) := by decide +kernel
theorem dX7_within_58 : decode cX7_within 58 = .ok (.lmul, 1) := by decide +kernel
theorem dX7_within_59 : decode cX7_within 59 = .ok (.lload 5, 2) := by decide +kernel
theorem dX7_within_61 : decode cX7_within 61 = .ok (.lload_n 2, 1) := by decide +kernel
theorem dX7_within_62 : decode cX7_within 62 = .ok (.lsub, 1) := by decide +kernel
theorem dX7_within_63 : decode cX7_within 63 = .ok (.iload_n 1, 1) := by decide +kernel
theorem dX7_within_64 : decode cX7_within 64 = .ok (.iload 9, 2) := by decide +kernel
theorem dX7_within_66 : decode cX7_within 66 = .ok (.isub, 1) := by decide +kernel
theorem dX7_within_67 : decode cX7_within 67 = .ok (.invokestatic 165, 3) := by decide +kernel
theorem dX7_within_70 : decode cX7_within 70 = .ok (.lmul, 1) := by decide +kernel
theorem dX7_within_71 : decode cX7_within 71 = .ok (.ladd, 1) := by decide +kernel
theorem dX7_within_72 : decode cX7_within 72 = .ok (.lstore 7, 2) := by decide +kernel
theorem dX7_within_74 : decode cX7_within 74 = .ok (.iinc 9 1, 3) := by decide +kernel
theorem dX7_within_77 : decode cX7_within 77 = .ok (.goto (-39), 3) := by decide +kernel
theorem dX7_within_80 : decode cX7_within 80 = .ok (.lload 7, 2) := by decide +kernel
theorem dX7_within_82 : decode cX7_within 82 = .ok (.lreturn, 1) := by decide +kernel
theorem dX7_floors_0 : decode cX7_floors 0 = .ok (.aload_n 0, 1) := by decide +kernel
theorem dX7_floors_1 : decode cX7_floors 1 = .ok (.getfield 16, 3) := by decide +kernel
theorem dX7_floors_4 : decode cX7_floors 4 = .ok (.bipush 96, 2) := by decide +kernel
theorem dX7_floors_6 : decode cX7_floors 6 = .ok (.iaload, 1) := by decide +kernel
theorem dX7_floors_7 : decode cX7_floors 7 = .ok (.istore_n 3, 1) := by decide +kernel
theorem dX7_floors_8 : decode cX7_floors 8 = .ok (.aload_n 0, 1) := by decide +kernel
theorem dX7_floors_9 : decode cX7_floors 9 = .ok (.getfield 16, 3) := by decide +kernel
theorem dX7_floors_12 : decode cX7_floors 12 = .ok (.bipush 101, 2) := by decide +kernel
theorem dX7_floors_14 : decode cX7_floors 14 = .ok (.iaload, 1) := by decide +kernel
theorem dX7_floors_15 : decode cX7_floors 15 = .ok (.ifCond .ne 12, 3) := by decide +kernel
theorem dX7_floors_18 : decode cX7_floors 18 = .ok (.aload_n 0, 1) := by decide +kernel
theorem dX7_floors_19 : decode cX7_floors 19 = .ok (.iconst 2, 1) := by decide +kernel
theorem dX7_floors_20 : decode cX7_floors 20 = .ok (.iload_n 3, 1) := by decide +kernel
theorem dX7_floors_21 : decode cX7_floors 21 = .ok (.imul, 1) := by decide +kernel
theorem dX7_floors_22 : decode cX7_floors 22 = .ok (.lload_n 1, 1) := by decide +kernel
theorem dX7_floors_23 : decode cX7_floors 23 = .ok (.invokevirtual 169, 3) := by decide +kernel
theorem dX7_floors_26 : decode cX7_floors 26 = .ok (.lreturn, 1) := by decide +kernel
theorem dX7_floors_27 : decode cX7_floors 27 = .ok (.aload_n 0, 1) := by decide +kernel
theorem dX7_floors_28 : decode cX7_floors 28 = .ok (.iload_n 3, 1) := by decide +kernel
theorem dX7_floors_29 : decode cX7_floors 29 = .ok (.lload_n 1, 1) := by decide +kernel
theorem dX7_floors_30 : decode cX7_floors 30 = .ok (.invokevirtual 169, 3) := by decide +kernel
theorem dX7_floors_33 : decode cX7_floors 33 = .ok (.lstore 4, 2) := by decide +kernel
theorem dX7_floors_35 : decode cX7_floors 35 = .ok (.aload_n 0, 1) := by decide +kernel
theorem dX7_floors_36 : decode cX7_floors 36 = .ok (.invokevirtual 158, 3) := by decide +kernel
theorem dX7_floors_39 : decode cX7_floors 39 = .ok (.i2l, 1) := by decide +kernel
theorem dX7_floors_40 : decode cX7_floors 40 = .ok (.iload_n 3, 1) := by decide +kernel
theorem dX7_floors_41 : decode cX7_floors 41 = .ok (.invokestatic 165, 3) := by decide +kernel
theorem dX7_floors_44 : decode cX7_floors 44 = .ok (.lstore 6, 2) := by decide +kernel
theorem dX7_floors_46 : decode cX7_floors 46 = .ok (.aload_n 0, 1) := by decide +kernel
theorem dX7_floors_47 : decode cX7_floors 47 = .ok (.getfield 16, 3) := by decide +kernel
theorem dX7_floors_50 : decode cX7_floors 50 = .ok (.bipush 101, 2) := by decide +kernel
theorem dX7_floors_52 : decode cX7_floors 52 = .ok (.iaload, 1) := by decide +kernel
theorem dX7_floors_53 : decode cX7_floors 53 = .ok (.iconst 1, 1) := by decide +kernel
theorem dX7_floors_54 : decode cX7_floors 54 = .ok (.if_icmp .ne 11, 3) := by decide +kernel
theorem dX7_floors_57 : decode cX7_floors 57 = .ok (.lload 4, 2) := by decide +kernel
theorem dX7_floors_59 : decode cX7_floors 59 = .ok (.lload 4, 2) := by decide +kernel
theorem dX7_floors_61 : decode cX7_floors 61 = .ok (.lmul, 1) := by decide +kernel
theorem dX7_floors_62 : decode cX7_floors 62 = .ok (.goto 20, 3) := by decide +kernel
theorem dX7_floors_65 : decode cX7_floors 65 = .ok (.lload 6, 2) := by decide +kernel
theorem dX7_floors_67 : decode cX7_floors 67 = .ok (.lload 6, 2) := by decide +kernel
theorem dX7_floors_69 : decode cX7_floors 69 = .ok (.lmul, 1) := by decide +kernel
theorem dX7_floors_70 : decode cX7_floors 70 = .ok (.lload 6, 2) := by decide +kernel
theorem dX7_floors_72 : decode cX7_floors 72 = .ok (.lload 4, 2) := by decide +kernel
theorem dX7_floors_74 : decode cX7_floors 74 = .ok (.lsub, 1) := by decide +kernel
theorem dX7_floors_75 : decode cX7_floors 75 = .ok (.lload 6, 2) := by decide +kernel
theorem dX7_floors_77 : decode cX7_floors 77 = .ok (.lload 4, 2) := by decide +kernel
theorem dX7_floors_79 : decode cX7_floors 79 = .ok (.lsub, 1) := by decide +kernel
theorem dX7_floors_80 : decode cX7_floors 80 = .ok (.lmul, 1) := by decide +kernel
theorem dX7_floors_81 : decode cX7_floors 81 = .ok (.lsub, 1) := by decide +kernel
theorem dX7_floors_82 : decode cX7_floors 82 = .ok (.lreturn, 1) := by decide +kernel
theorem dX7_falses_0 : decode cX7_falses 0 = .ok (.lconst 0, 1) := by decide +kernel
theorem dX7_falses_1 : decode cX7_falses 1 = .ok (.lstore_n 2, 1) := by decide +kernel
theorem dX7_falses_2 : decode cX7_falses 2 = .ok (.lconst 0, 1) := by decide +kernel
theorem dX7_falses_3 : decode cX7_falses 3 = .ok (.lstore 4, 2) := by decide +kernel
theorem dX7_falses_5 : decode cX7_falses 5 = .ok (.lconst 0, 1) := by decide +kernel
theorem dX7_falses_6 : decode cX7_falses 6 = .ok (.lstore 6, 2) := by decide +kernel
theorem dX7_falses_8 : decode cX7_falses 8 = .ok (.iconst 0, 1) := by decide +kernel
theorem dX7_falses_9 : decode cX7_falses 9 = .ok (.istore 8, 2) := by decide +kernel
theorem dX7_falses_11 : decode cX7_falses 11 = .ok (.iload 8, 2) := by decide +kernel
theorem dX7_falses_13 : decode cX7_falses 13 = .ok (.bipush 8, 2) := by decide +kernel
theorem dX7_falses_15 : decode cX7_falses 15 = .ok (.if_icmp .ge 98, 3) := by decide +kernel
theorem dX7_falses_18 : decode cX7_falses 18 = .ok (.lload 6, 2) := by decide +kernel
theorem dX7_falses_20 : decode cX7_falses 20 = .ok (.aload_n 0, 1) := by decide +kernel
theorem dX7_falses_21 : decode cX7_falses 21 = .ok (.getfield 13, 3) := by decide +kernel
theorem dX7_falses_24 : decode cX7_falses 24 = .ok (.iload 8, 2) := by decide +kernel
theorem dX7_falses_26 : decode cX7_falses 26 = .ok (.iaload, 1) := by decide +kernel
theorem dX7_falses_27 : decode cX7_falses 27 = .ok (.i2l, 1) := by decide +kernel
theorem dX7_falses_28 : decode cX7_falses 28 = .ok (.ladd, 1) := by decide +kernel
theorem dX7_falses_29 : decode cX7_falses 29 = .ok (.lstore 6, 2) := by decide +kernel
theorem dX7_falses_31 : decode cX7_falses 31 = .ok (.aload_n 0, 1) := by decide +kernel
theorem dX7_falses_32 : decode cX7_falses 32 = .ok (.lload 6, 2) := by decide +kernel
theorem dX7_falses_34 : decode cX7_falses 34 = .ok (.invokevirtual 173, 3) := by decide +kernel
theorem dX7_falses_37 : decode cX7_falses 37 = .ok (.lstore 9, 2) := by decide +kernel
theorem dX7_falses_39 : decode cX7_falses 39 = .ok (.lconst 0, 1) := by decide +kernel
theorem dX7_falses_40 : decode cX7_falses 40 = .ok (.lstore 11, 2) := by decide +kernel
theorem dX7_falses_42 : decode cX7_falses 42 = .ok (.iconst 0, 1) := by decide +kernel
theorem dX7_falses_43 : decode cX7_falses 43 = .ok (.istore 13, 2) := by decide +kernel
theorem dX7_falses_45 : decode cX7_falses 45 = .ok (.iload 13, 2) := by decide +kernel
theorem dX7_falses_47 : decode cX7_falses 47 = .ok (.bipush 8, 2) := by decide +kernel
theorem dX7_falses_49 : decode cX7_falses 49 = .ok (.if_icmp .ge 43, 3) := by decide +kernel
theorem dX7_falses_52 : decode cX7_falses 52 = .ok (.lload 11, 2) := by decide +kernel
theorem dX7_falses_54 : decode cX7_falses 54 = .ok (.aload_n 0, 1) := by decide +kernel
theorem dX7_falses_55 : decode cX7_falses 55 = .ok (.getfield 16, 3) := by decide +kernel
theorem dX7_falses_58 : decode cX7_falses 58 = .ok (.bipush 100, 2) := by decide +kernel
theorem dX7_falses_60 : decode cX7_falses 60 = .ok (.iaload, 1) := by decide +kernel
theorem dX7_falses_61 : decode cX7_falses 61 = .ok (.iload 13, 2) := by decide +kernel
theorem dX7_falses_63 : decode cX7_falses 63 = .ok (.imul, 1) := by decide +kernel
theorem dX7_falses_64 : decode cX7_falses 64 = .ok (.iload_n 1, 1) := by decide +kernel
theorem dX7_falses_65 : decode cX7_falses 65 = .ok (.iload 8, 2) := by decide +kernel
theorem dX7_falses_67 : decode cX7_falses 67 = .ok (.imul, 1) := by decide +kernel
theorem dX7_falses_68 : decode cX7_falses 68 = .ok (.if_icmp .le 14, 3) := by decide +kernel
theorem dX7_falses_71 : decode cX7_falses 71 = .ok (.aload_n 0, 1) := by decide +kernel
theorem dX7_falses_72 : decode cX7_falses 72 = .ok (.getfield 13, 3) := by decide +kernel
theorem dX7_falses_75 : decode cX7_falses 75 = .ok (.iload 13, 2) := by decide +kernel
theorem dX7_falses_77 : decode cX7_falses 77 = .ok (.iaload, 1) := by decide +kernel
theorem dX7_falses_78 : decode cX7_falses 78 = .ok (.i2l, 1) := by decide +kernel
theorem dX7_falses_79 : decode cX7_falses 79 = .ok (.goto 4, 3) := by decide +kernel
theorem dX7_falses_82 : decode cX7_falses 82 = .ok (.lconst 0, 1) := by decide +kernel
theorem dX7_falses_83 : decode cX7_falses 83 = .ok (.ladd, 1) := by decide +kernel
theorem dX7_falses_84 : decode cX7_falses 84 = .ok (.lstore 11, 2) := by decide +kernel
theorem dX7_falses_86 : decode cX7_falses 86 = .ok (.iinc 13 1, 3) := by decide +kernel
theorem dX7_falses_89 : decode cX7_falses 89 = .ok (.goto (-44), 3) := by decide +kernel
theorem dX7_falses_92 : decode cX7_falses 92 = .ok (.lload_n 2, 1) := by decide +kernel
theorem dX7_falses_93 : decode cX7_falses 93 = .ok (.lload 9, 2) := by decide +kernel
theorem dX7_falses_95 : decode cX7_falses 95 = .ok (.lload 4, 2) := by decide +kernel
theorem dX7_falses_97 : decode cX7_falses 97 = .ok (.lsub, 1) := by decide +kernel
theorem dX7_falses_98 : decode cX7_falses 98 = .ok (.lload 11, 2) := by decide +kernel
theorem dX7_falses_100 : decode cX7_falses 100 = .ok (.lmul, 1) := by decide +kernel
theorem dX7_falses_101 : decode cX7_falses 101 = .ok (.ladd, 1) := by decide +kernel
theorem dX7_falses_102 : decode cX7_falses 102 = .ok (.lstore_n 2, 1) := by decide +kernel
theorem dX7_falses_103 : decode cX7_falses 103 = .ok (.lload 9, 2) := by decide +kernel
theorem dX7_falses_105 : decode cX7_falses 105 = .ok (.lstore 4, 2) := by decide +kernel
theorem dX7_falses_107 : decode cX7_falses 107 = .ok (.iinc 8 1, 3) := by decide +kernel
theorem dX7_falses_110 : decode cX7_falses 110 = .ok (.goto (-99), 3) := by decide +kernel
theorem dX7_falses_113 : decode cX7_falses 113 = .ok (.lload_n 2, 1) := by decide +kernel
theorem dX7_falses_114 : decode cX7_falses 114 = .ok (.lreturn, 1) := by decide +kernel
theorem dX7_allWays_0 : decode cX7_allWays 0 = .ok (.aload_n 0, 1) := by decide +kernel
theorem dX7_allWays_1 : decode cX7_allWays 1 = .ok (.invokevirtual 158, 3) := by decide +kernel
theorem dX7_allWays_4 : decode cX7_allWays 4 = .ok (.i2l, 1) := by decide +kernel
theorem dX7_allWays_5 : decode cX7_allWays 5 = .ok (.iconst 2, 1) := by decide +kernel
theorem dX7_allWays_6 : decode cX7_allWays 6 = .ok (.aload_n 0, 1) := by decide +kernel
theorem dX7_allWays_7 : decode cX7_allWays 7 = .ok (.getfield 16, 3) := by decide +kernel
theorem dX7_allWays_10 : decode cX7_allWays 10 = .ok (.bipush 96, 2) := by decide +kernel
theorem dX7_allWays_12 : decode cX7_allWays 12 = .ok (.iaload, 1) := by decide +kernel
theorem dX7_allWays_13 : decode cX7_allWays 13 = .ok (.imul, 1) := by decide +kernel
theorem dX7_allWays_14 : decode cX7_allWays 14 = .ok (.iconst 1, 1) := by decide +kernel
theorem dX7_allWays_15 : decode cX7_allWays 15 = .ok (.iadd, 1) := by decide +kernel
theorem dX7_allWays_16 : decode cX7_allWays 16 = .ok (.invokestatic 165, 3) := by decide +kernel
theorem dX7_allWays_19 : decode cX7_allWays 19 = .ok (.lreturn, 1) := by decide +kernel
theorem dX7_common_0 : decode cX7_common 0 = .ok (.lload_n 0, 1) := by decide +kernel
theorem dX7_common_1 : decode cX7_common 1 = .ok (.lstore 4, 2) := by decide +kernel
theorem dX7_common_3 : decode cX7_common 3 = .ok (.lload_n 2, 1) := by decide +kernel
theorem dX7_common_4 : decode cX7_common 4 = .ok (.lstore 6, 2) := by decide +kernel
theorem dX7_common_6 : decode cX7_common 6 = .ok (.lload 6, 2) := by decide +kernel
theorem dX7_common_8 : decode cX7_common 8 = .ok (.lconst 0, 1) := by decide +kernel
theorem dX7_common_9 : decode cX7_common 9 = .ok (.lcmp, 1) := by decide +kernel
theorem dX7_common_10 : decode cX7_common 10 = .ok (.ifCond .eq 21, 3) := by decide +kernel
theorem dX7_common_13 : decode cX7_common 13 = .ok (.lload 4, 2) := by decide +kernel
theorem dX7_common_15 : decode cX7_common 15 = .ok (.lload 6, 2) := by decide +kernel
theorem dX7_common_17 : decode cX7_common 17 = .ok (.lrem, 1) := by decide +kernel
theorem dX7_common_18 : decode cX7_common 18 = .ok (.lstore 8, 2) := by decide +kernel
theorem dX7_common_20 : decode cX7_common 20 = .ok (.lload 6, 2) := by decide +kernel
theorem dX7_common_22 : decode cX7_common 22 = .ok (.lstore 4, 2) := by decide +kernel
theorem dX7_common_24 : decode cX7_common 24 = .ok (.lload 8, 2) := by decide +kernel
theorem dX7_common_26 : decode cX7_common 26 = .ok (.lstore 6, 2) := by decide +kernel
theorem dX7_common_28 : decode cX7_common 28 = .ok (.goto (-22), 3) := by decide +kernel
theorem dX7_common_31 : decode cX7_common 31 = .ok (.lload 4, 2) := by decide +kernel
theorem dX7_common_33 : decode cX7_common 33 = .ok (.lreturn, 1) := by decide +kernel
theorem dX7_odds_0 : decode cX7_odds 0 = .ok (.iload_n 1, 1) := by decide +kernel
theorem dX7_odds_1 : decode cX7_odds 1 = .ok (.iconst 0, 1) := by decide +kernel
theorem dX7_odds_2 : decode cX7_odds 2 = .ok (.iconst 1, 1) := by decide +kernel
theorem dX7_odds_3 : decode cX7_odds 3 = .ok (.invokestatic 76, 3) := by decide +kernel
theorem dX7_odds_6 : decode cX7_odds 6 = .ok (.ifCond .ne 7, 3) := by decide +kernel
theorem dX7_odds_9 : decode cX7_odds 9 = .ok (.ldc2_w 177, 3) := by decide +kernel
theorem dX7_odds_12 : decode cX7_odds 12 = .ok (.lreturn, 1) := by decide +kernel
theorem dX7_odds_13 : decode cX7_odds 13 = .ok (.aload_n 0, 1) := by decide +kernel
theorem dX7_odds_14 : decode cX7_odds 14 = .ok (.aload_n 0, 1) := by decide +kernel
theorem dX7_odds_15 : decode cX7_odds 15 = .ok (.getfield 16, 3) := by decide +kernel
theorem dX7_odds_18 : decode cX7_odds 18 = .ok (.bipush 99, 2) := by decide +kernel
theorem dX7_odds_20 : decode cX7_odds 20 = .ok (.iaload, 1) := by decide +kernel
theorem dX7_odds_21 : decode cX7_odds 21 = .ok (.invokevirtual 179, 3) := by decide +kernel
theorem dX7_odds_24 : decode cX7_odds 24 = .ok (.lstore_n 2, 1) := by decide +kernel
theorem dX7_odds_25 : decode cX7_odds 25 = .ok (.aload_n 0, 1) := by decide +kernel
theorem dX7_odds_26 : decode cX7_odds 26 = .ok (.invokevirtual 183, 3) := by decide +kernel
theorem dX7_odds_29 : decode cX7_odds 29 = .ok (.lstore 4, 2) := by decide +kernel
theorem dX7_odds_31 : decode cX7_odds 31 = .ok (.lload_n 2, 1) := by decide +kernel
theorem dX7_odds_32 : decode cX7_odds 32 = .ok (.lload 4, 2) := by decide +kernel
theorem dX7_odds_34 : decode cX7_odds 34 = .ok (.invokestatic 187, 3) := by decide +kernel
theorem dX7_odds_37 : decode cX7_odds 37 = .ok (.lstore 6, 2) := by decide +kernel
theorem dX7_odds_39 : decode cX7_odds 39 = .ok (.iload_n 1, 1) := by decide +kernel
theorem dX7_odds_40 : decode cX7_odds 40 = .ok (.ifCond .ne 10, 3) := by decide +kernel
theorem dX7_odds_43 : decode cX7_odds 43 = .ok (.lload_n 2, 1) := by decide +kernel
theorem dX7_odds_44 : decode cX7_odds 44 = .ok (.lload 6, 2) := by decide +kernel
theorem dX7_odds_46 : decode cX7_odds 46 = .ok (.ldiv, 1) := by decide +kernel
theorem dX7_odds_47 : decode cX7_odds 47 = .ok (.goto 8, 3) := by decide +kernel
theorem dX7_odds_50 : decode cX7_odds 50 = .ok (.lload 4, 2) := by decide +kernel
theorem dX7_odds_52 : decode cX7_odds 52 = .ok (.lload 6, 2) := by decide +kernel
theorem dX7_odds_54 : decode cX7_odds 54 = .ok (.ldiv, 1) := by decide +kernel
theorem dX7_odds_55 : decode cX7_odds 55 = .ok (.lreturn, 1) := by decide +kernel
theorem dX7_isNoMore_0 : decode cX7_isNoMore 0 = .ok (.lload_n 0, 1) := by decide +kernel
theorem dX7_isNoMore_1 : decode cX7_isNoMore 1 = .ok (.lstore 8, 2) := by decide +kernel
theorem dX7_isNoMore_3 : decode cX7_isNoMore 3 = .ok (.lload_n 2, 1) := by decide +kernel
theorem dX7_isNoMore_4 : decode cX7_isNoMore 4 = .ok (.lstore 10, 2) := by decide +kernel
theorem dX7_isNoMore_6 : decode cX7_isNoMore 6 = .ok (.lload 4, 2) := by decide +kernel
theorem dX7_isNoMore_8 : decode cX7_isNoMore 8 = .ok (.lstore 12, 2) := by decide +kernel
theorem dX7_isNoMore_10 : decode cX7_isNoMore 10 = .ok (.lload 6, 2) := by decide +kernel
theorem dX7_isNoMore_12 : decode cX7_isNoMore 12 = .ok (.lstore 14, 2) := by decide +kernel
theorem dX7_isNoMore_14 : decode cX7_isNoMore 14 = .ok (.iconst 1, 1) := by decide +kernel
theorem dX7_isNoMore_15 : decode cX7_isNoMore 15 = .ok (.istore 16, 2) := by decide +kernel
theorem dX7_isNoMore_17 : decode cX7_isNoMore 17 = .ok (.lload 10, 2) := by decide +kernel
theorem dX7_isNoMore_19 : decode cX7_isNoMore 19 = .ok (.lconst 0, 1) := by decide +kernel
theorem dX7_isNoMore_20 : decode cX7_isNoMore 20 = .ok (.lcmp, 1) := by decide +kernel
theorem dX7_isNoMore_21 : decode cX7_isNoMore 21 = .ok (.ifCond .eq 99, 3) := by decide +kernel
theorem dX7_isNoMore_24 : decode cX7_isNoMore 24 = .ok (.lload 14, 2) := by decide +kernel
theorem dX7_isNoMore_26 : decode cX7_isNoMore 26 = .ok (.lconst 0, 1) := by decide +kernel
theorem dX7_isNoMore_27 : decode cX7_isNoMore 27 = .ok (.lcmp, 1) := by decide +kernel
theorem dX7_isNoMore_28 : decode cX7_isNoMore 28 = .ok (.ifCond .eq 92, 3) := by decide +kernel
theorem dX7_isNoMore_31 : decode cX7_isNoMore 31 = .ok (.lload 8, 2) := by decide +kernel
theorem dX7_isNoMore_33 : decode cX7_isNoMore 33 = .ok (.lload 10, 2) := by decide +kernel
theorem dX7_isNoMore_35 : decode cX7_isNoMore 35 = .ok (.ldiv, 1) := by decide +kernel
theorem dX7_isNoMore_36 : decode cX7_isNoMore 36 = .ok (.lload 12, 2) := by decide +kernel
theorem dX7_isNoMore_38 : decode cX7_isNoMore 38 = .ok (.lload 14, 2) := by decide +kernel
theorem dX7_isNoMore_40 : decode cX7_isNoMore 40 = .ok (.ldiv, 1) := by decide +kernel
theorem dX7_isNoMore_41 : decode cX7_isNoMore 41 = .ok (.lcmp, 1) := by decide +kernel
theorem dX7_isNoMore_42 : decode cX7_isNoMore 42 = .ok (.ifCond .eq 33, 3) := by decide +kernel
theorem dX7_isNoMore_45 : decode cX7_isNoMore 45 = .ok (.lload 8, 2) := by decide +kernel
theorem dX7_isNoMore_47 : decode cX7_isNoMore 47 = .ok (.lload 10, 2) := by decide +kernel
theorem dX7_isNoMore_49 : decode cX7_isNoMore 49 = .ok (.ldiv, 1) := by decide +kernel
theorem dX7_isNoMore_50 : decode cX7_isNoMore 50 = .ok (.lload 12, 2) := by decide +kernel
theorem dX7_isNoMore_52 : decode cX7_isNoMore 52 = .ok (.lload 14, 2) := by decide +kernel
theorem dX7_isNoMore_54 : decode cX7_isNoMore 54 = .ok (.ldiv, 1) := by decide +kernel
theorem dX7_isNoMore_55 : decode cX7_isNoMore 55 = .ok (.lcmp, 1) := by decide +kernel
theorem dX7_isNoMore_56 : decode cX7_isNoMore 56 = .ok (.ifCond .ge 7, 3) := by decide +kernel
theorem dX7_isNoMore_59 : decode cX7_isNoMore 59 = .ok (.iconst 1, 1) := by decide +kernel
theorem dX7_isNoMore_60 : decode cX7_isNoMore 60 = .ok (.goto 4, 3) := by decide +kernel
theorem dX7_isNoMore_63 : decode cX7_isNoMore 63 = .ok (.iconst 0, 1) := by decide +kernel
theorem dX7_isNoMore_64 : decode cX7_isNoMore 64 = .ok (.iload 16, 2) := by decide +kernel
theorem dX7_isNoMore_66 : decode cX7_isNoMore 66 = .ok (.if_icmp .ne 7, 3) := by decide +kernel
theorem dX7_isNoMore_69 : decode cX7_isNoMore 69 = .ok (.iconst 1, 1) := by decide +kernel
theorem dX7_isNoMore_70 : decode cX7_isNoMore 70 = .ok (.goto 4, 3) := by decide +kernel
theorem dX7_isNoMore_73 : decode cX7_isNoMore 73 = .ok (.iconst 0, 1) := by decide +kernel
theorem dX7_isNoMore_74 : decode cX7_isNoMore 74 = .ok (.ireturn, 1) := by decide +kernel
theorem dX7_isNoMore_75 : decode cX7_isNoMore 75 = .ok (.lload 8, 2) := by decide +kernel
theorem dX7_isNoMore_77 : decode cX7_isNoMore 77 = .ok (.lload 10, 2) := by decide +kernel
theorem dX7_isNoMore_79 : decode cX7_isNoMore 79 = .ok (.lrem, 1) := by decide +kernel
theorem dX7_isNoMore_80 : decode cX7_isNoMore 80 = .ok (.lstore 17, 2) := by decide +kernel
theorem dX7_isNoMore_82 : decode cX7_isNoMore 82 = .ok (.lload 12, 2) := by decide +kernel
theorem dX7_isNoMore_84 : decode cX7_isNoMore 84 = .ok (.lload 14, 2) := by decide +kernel
theorem dX7_isNoMore_86 : decode cX7_isNoMore 86 = .ok (.lrem, 1) := by decide +kernel
theorem dX7_isNoMore_87 : decode cX7_isNoMore 87 = .ok (.lstore 19, 2) := by decide +kernel
theorem dX7_isNoMore_89 : decode cX7_isNoMore 89 = .ok (.lload 10, 2) := by decide +kernel
theorem dX7_isNoMore_91 : decode cX7_isNoMore 91 = .ok (.lstore 8, 2) := by decide +kernel
theorem dX7_isNoMore_93 : decode cX7_isNoMore 93 = .ok (.lload 17, 2) := by decide +kernel
theorem dX7_isNoMore_95 : decode cX7_isNoMore 95 = .ok (.lstore 10, 2) := by decide +kernel
theorem dX7_isNoMore_97 : decode cX7_isNoMore 97 = .ok (.lload 14, 2) := by decide +kernel
theorem dX7_isNoMore_99 : decode cX7_isNoMore 99 = .ok (.lstore 12, 2) := by decide +kernel
theorem dX7_isNoMore_101 : decode cX7_isNoMore 101 = .ok (.lload 19, 2) := by decide +kernel
theorem dX7_isNoMore_103 : decode cX7_isNoMore 103 = .ok (.lstore 14, 2) := by decide +kernel
theorem dX7_isNoMore_105 : decode cX7_isNoMore 105 = .ok (.iload 16, 2) := by decide +kernel
theorem dX7_isNoMore_107 : decode cX7_isNoMore 107 = .ok (.ifCond .ne 7, 3) := by decide +kernel
theorem dX7_isNoMore_110 : decode cX7_isNoMore 110 = .ok (.iconst 1, 1) := by decide +kernel
theorem dX7_isNoMore_111 : decode cX7_isNoMore 111 = .ok (.goto 4, 3) := by decide +kernel
theorem dX7_isNoMore_114 : decode cX7_isNoMore 114 = .ok (.iconst 0, 1) := by decide +kernel
theorem dX7_isNoMore_115 : decode cX7_isNoMore 115 = .ok (.istore 16, 2) := by decide +kernel
theorem dX7_isNoMore_117 : decode cX7_isNoMore 117 = .ok (.goto (-100), 3) := by decide +kernel
theorem dX7_isNoMore_120 : decode cX7_isNoMore 120 = .ok (.lload 10, 2) := by decide +kernel
theorem dX7_isNoMore_122 : decode cX7_isNoMore 122 = .ok (.lconst 0, 1) := by decide +kernel
theorem dX7_isNoMore_123 : decode cX7_isNoMore 123 = .ok (.lcmp, 1) := by decide +kernel
theorem dX7_isNoMore_124 : decode cX7_isNoMore 124 = .ok (.ifCond .ne 10, 3) := by decide +kernel
theorem dX7_isNoMore_127 : decode cX7_isNoMore 127 = .ok (.lload 14, 2) := by decide +kernel
theorem dX7_isNoMore_129 : decode cX7_isNoMore 129 = .ok (.lconst 0, 1) := by decide +kernel
theorem dX7_isNoMore_130 : decode cX7_isNoMore 130 = .ok (.lcmp, 1) := by decide +kernel
theorem dX7_isNoMore_131 : decode cX7_isNoMore 131 = .ok (.ifCond .eq 20, 3) := by decide +kernel
theorem dX7_isNoMore_134 : decode cX7_isNoMore 134 = .ok (.lload 10, 2) := by decide +kernel
theorem dX7_isNoMore_136 : decode cX7_isNoMore 136 = .ok (.lconst 0, 1) := by decide +kernel
theorem dX7_isNoMore_137 : decode cX7_isNoMore 137 = .ok (.lcmp, 1) := by decide +kernel
theorem dX7_isNoMore_138 : decode cX7_isNoMore 138 = .ok (.ifCond .ne 7, 3) := by decide +kernel
theorem dX7_isNoMore_141 : decode cX7_isNoMore 141 = .ok (.iconst 1, 1) := by decide +kernel
theorem dX7_isNoMore_142 : decode cX7_isNoMore 142 = .ok (.goto 4, 3) := by decide +kernel
theorem dX7_isNoMore_145 : decode cX7_isNoMore 145 = .ok (.iconst 0, 1) := by decide +kernel
theorem dX7_isNoMore_146 : decode cX7_isNoMore 146 = .ok (.iload 16, 2) := by decide +kernel
theorem dX7_isNoMore_148 : decode cX7_isNoMore 148 = .ok (.if_icmp .eq 7, 3) := by decide +kernel
theorem dX7_isNoMore_151 : decode cX7_isNoMore 151 = .ok (.iconst 1, 1) := by decide +kernel
theorem dX7_isNoMore_152 : decode cX7_isNoMore 152 = .ok (.goto 4, 3) := by decide +kernel
theorem dX7_isNoMore_155 : decode cX7_isNoMore 155 = .ok (.iconst 0, 1) := by decide +kernel
theorem dX7_isNoMore_156 : decode cX7_isNoMore 156 = .ok (.ireturn, 1) := by decide +kernel
theorem dX7_factor_0 : decode cX7_factor 0 = .ok (.iload_n 1, 1) := by decide +kernel
theorem dX7_factor_1 : decode cX7_factor 1 = .ok (.iconst 1, 1) := by decide +kernel
theorem dX7_factor_2 : decode cX7_factor 2 = .ok (.ldc 191, 2) := by decide +kernel
theorem dX7_factor_4 : decode cX7_factor 4 = .ok (.invokestatic 76, 3) := by decide +kernel
theorem dX7_factor_7 : decode cX7_factor 7 = .ok (.ifCond .eq 13, 3) := by decide +kernel
theorem dX7_factor_10 : decode cX7_factor 10 = .ok (.iload_n 2, 1) := by decide +kernel
theorem dX7_factor_11 : decode cX7_factor 11 = .ok (.iconst 1, 1) := by decide +kernel
theorem dX7_factor_12 : decode cX7_factor 12 = .ok (.ldc 191, 2) := by decide +kernel
theorem dX7_factor_14 : decode cX7_factor 14 = .ok (.invokestatic 76, 3) := by decide +kernel
theorem dX7_factor_17 : decode cX7_factor 17 = .ok (.ifCond .ne 5, 3) := by decide +kernel
theorem dX7_factor_20 : decode cX7_factor 20 = .ok (.iconst (-1), 1) := by decide +kernel
theorem dX7_factor_21 : decode cX7_factor 21 = .ok (.ireturn, 1) := by decide +kernel
theorem dX7_factor_22 : decode cX7_factor 22 = .ok (.iconst 1, 1) := by decide +kernel
theorem dX7_factor_23 : decode cX7_factor 23 = .ok (.istore_n 3, 1) := by decide +kernel
theorem dX7_factor_24 : decode cX7_factor 24 = .ok (.iload_n 3, 1) := by decide +kernel
theorem dX7_factor_25 : decode cX7_factor 25 = .ok (.bipush 40, 2) := by decide +kernel
theorem dX7_factor_27 : decode cX7_factor 27 = .ok (.if_icmp .gt 30, 3) := by decide +kernel
theorem dX7_factor_30 : decode cX7_factor 30 = .ok (.aload_n 0, 1) := by decide +kernel
theorem dX7_factor_31 : decode cX7_factor 31 = .ok (.iload_n 3, 1) := by decide +kernel
theorem dX7_factor_32 : decode cX7_factor 32 = .ok (.invokevirtual 179, 3) := by decide +kernel
theorem dX7_factor_35 : decode cX7_factor 35 = .ok (.aload_n 0, 1) := by decide +kernel
theorem dX7_factor_36 : decode cX7_factor 36 = .ok (.invokevirtual 183, 3) := by decide +kernel
theorem dX7_factor_39 : decode cX7_factor 39 = .ok (.iload_n 1, 1) := by decide +kernel
theorem dX7_factor_40 : decode cX7_factor 40 = .ok (.i2l, 1) := by decide +kernel
theorem dX7_factor_41 : decode cX7_factor 41 = .ok (.iload_n 2, 1) := by decide +kernel
theorem dX7_factor_42 : decode cX7_factor 42 = .ok (.i2l, 1) := by decide +kernel
theorem dX7_factor_43 : decode cX7_factor 43 = .ok (.invokestatic 192, 3) := by decide +kernel
theorem dX7_factor_46 : decode cX7_factor 46 = .ok (.ifCond .eq 5, 3) := by decide +kernel
theorem dX7_factor_49 : decode cX7_factor 49 = .ok (.iload_n 3, 1) := by decide +kernel
theorem dX7_factor_50 : decode cX7_factor 50 = .ok (.ireturn, 1) := by decide +kernel
theorem dX7_factor_51 : decode cX7_factor 51 = .ok (.iinc 3 1, 3) := by decide +kernel
theorem dX7_factor_54 : decode cX7_factor 54 = .ok (.goto (-30), 3) := by decide +kernel
theorem dX7_factor_57 : decode cX7_factor 57 = .ok (.bipush (-4), 2) := by decide +kernel
theorem dX7_factor_59 : decode cX7_factor 59 = .ok (.ireturn, 1) := by decide +kernel
theorem dX7_figure_0 : decode cX7_figure 0 = .ok (.iload_n 0, 1) := by decide +kernel
theorem dX7_figure_1 : decode cX7_figure 1 = .ok (.bipush 10, 2) := by decide +kernel
theorem dX7_figure_3 : decode cX7_figure 3 = .ok (.if_icmp .ge 19, 3) := by decide +kernel
theorem dX7_figure_6 : decode cX7_figure 6 = .ok (.iload_n 1, 1) := by decide +kernel
theorem dX7_figure_7 : decode cX7_figure 7 = .ok (.ifCond .ne 10, 3) := by decide +kernel
theorem dX7_figure_10 : decode cX7_figure 10 = .ok (.bipush 48, 2) := by decide +kernel
theorem dX7_figure_12 : decode cX7_figure 12 = .ok (.iload_n 0, 1) := by decide +kernel
theorem dX7_figure_13 : decode cX7_figure 13 = .ok (.iadd, 1) := by decide +kernel
theorem dX7_figure_14 : decode cX7_figure 14 = .ok (.goto 39, 3) := by decide +kernel
theorem dX7_figure_17 : decode cX7_figure 17 = .ok (.bipush (-4), 2) := by decide +kernel
theorem dX7_figure_19 : decode cX7_figure 19 = .ok (.goto 34, 3) := by decide +kernel
theorem dX7_figure_22 : decode cX7_figure 22 = .ok (.iload_n 1, 1) := by decide +kernel
theorem dX7_figure_23 : decode cX7_figure 23 = .ok (.ifCond .ne 13, 3) := by decide +kernel
theorem dX7_figure_26 : decode cX7_figure 26 = .ok (.bipush 48, 2) := by decide +kernel
theorem dX7_figure_28 : decode cX7_figure 28 = .ok (.iload_n 0, 1) := by decide +kernel
theorem dX7_figure_29 : decode cX7_figure 29 = .ok (.bipush 10, 2) := by decide +kernel
theorem dX7_figure_31 : decode cX7_figure 31 = .ok (.idiv, 1) := by decide +kernel
theorem dX7_figure_32 : decode cX7_figure 32 = .ok (.iadd, 1) := by decide +kernel
theorem dX7_figure_33 : decode cX7_figure 33 = .ok (.goto 20, 3) := by decide +kernel
theorem dX7_figure_36 : decode cX7_figure 36 = .ok (.iload_n 1, 1) := by decide +kernel
theorem dX7_figure_37 : decode cX7_figure 37 = .ok (.iconst 1, 1) := by decide +kernel
theorem dX7_figure_38 : decode cX7_figure 38 = .ok (.if_icmp .ne 13, 3) := by decide +kernel
theorem dX7_figure_41 : decode cX7_figure 41 = .ok (.bipush 48, 2) := by decide +kernel
theorem dX7_figure_43 : decode cX7_figure 43 = .ok (.iload_n 0, 1) := by decide +kernel
theorem dX7_figure_44 : decode cX7_figure 44 = .ok (.bipush 10, 2) := by decide +kernel
theorem dX7_figure_46 : decode cX7_figure 46 = .ok (.irem, 1) := by decide +kernel
theorem dX7_figure_47 : decode cX7_figure 47 = .ok (.iadd, 1) := by decide +kernel
theorem dX7_figure_48 : decode cX7_figure 48 = .ok (.goto 5, 3) := by decide +kernel
theorem dX7_figure_51 : decode cX7_figure 51 = .ok (.bipush (-4), 2) := by decide +kernel
theorem dX7_figure_53 : decode cX7_figure 53 = .ok (.ireturn, 1) := by decide +kernel
theorem dX7_sign_0 : decode cX7_sign 0 = .ok (.aload_n 0, 1) := by decide +kernel
theorem dX7_sign_1 : decode cX7_sign 1 = .ok (.getfield 16, 3) := by decide +kernel
theorem dX7_sign_4 : decode cX7_sign 4 = .ok (.bipush 48, 2) := by decide +kernel
theorem dX7_sign_6 : decode cX7_sign 6 = .ok (.iload_n 1, 1) := by decide +kernel
theorem dX7_sign_7 : decode cX7_sign 7 = .ok (.iadd, 1) := by decide +kernel
theorem dX7_sign_8 : decode cX7_sign 8 = .ok (.iaload, 1) := by decide +kernel
theorem dX7_sign_9 : decode cX7_sign 9 = .ok (.iconst 1, 1) := by decide +kernel
theorem dX7_sign_10 : decode cX7_sign 10 = .ok (.if_icmp .ne 6, 3) := by decide +kernel
theorem dX7_sign_13 : decode cX7_sign 13 = .ok (.bipush 120, 2) := by decide +kernel
theorem dX7_sign_15 : decode cX7_sign 15 = .ok (.ireturn, 1) := by decide +kernel
theorem dX7_sign_16 : decode cX7_sign 16 = .ok (.aload_n 0, 1) := by decide +kernel
theorem dX7_sign_17 : decode cX7_sign 17 = .ok (.iload_n 1, 1) := by decide +kernel
theorem dX7_sign_18 : decode cX7_sign 18 = .ok (.invokevirtual 133, 3) := by decide +kernel
theorem dX7_sign_21 : decode cX7_sign 21 = .ok (.ifCond .ne 8, 3) := by decide +kernel
theorem dX7_sign_24 : decode cX7_sign 24 = .ok (.bipush 46, 2) := by decide +kernel
theorem dX7_sign_26 : decode cX7_sign 26 = .ok (.goto 27, 3) := by decide +kernel
theorem dX7_sign_29 : decode cX7_sign 29 = .ok (.aload_n 0, 1) := by decide +kernel
theorem dX7_sign_30 : decode cX7_sign 30 = .ok (.aload_n 0, 1) := by decide +kernel
theorem dX7_sign_31 : decode cX7_sign 31 = .ok (.aload_n 0, 1) := by decide +kernel
theorem dX7_sign_32 : decode cX7_sign 32 = .ok (.iload_n 1, 1) := by decide +kernel
theorem dX7_sign_33 : decode cX7_sign 33 = .ok (.invokevirtual 136, 3) := by decide +kernel
theorem dX7_sign_36 : decode cX7_sign 36 = .ok (.invokevirtual 149, 3) := by decide +kernel
theorem dX7_sign_39 : decode cX7_sign 39 = .ok (.invokevirtual 152, 3) := by decide +kernel
theorem dX7_sign_42 : decode cX7_sign 42 = .ok (.iload_n 1, 1) := by decide +kernel
theorem dX7_sign_43 : decode cX7_sign 43 = .ok (.if_icmp .ne 8, 3) := by decide +kernel
theorem dX7_sign_46 : decode cX7_sign 46 = .ok (.bipush 94, 2) := by decide +kernel
theorem dX7_sign_48 : decode cX7_sign 48 = .ok (.goto 5, 3) := by decide +kernel
theorem dX7_sign_51 : decode cX7_sign 51 = .ok (.bipush 33, 2) := by decide +kernel
theorem dX7_sign_53 : decode cX7_sign 53 = .ok (.ireturn, 1) := by decide +kernel
theorem dX7_drawn_0 : decode cX7_drawn 0 = .ok (.iload_n 1, 1) := by decide +kernel
theorem dX7_drawn_1 : decode cX7_drawn 1 = .ok (.ifCond .ge 5, 3) := by decide +kernel
theorem dX7_drawn_4 : decode cX7_drawn 4 = .ok (.iconst (-1), 1) := by decide +kernel
theorem dX7_drawn_5 : decode cX7_drawn 5 = .ok (.ireturn, 1) := by decide +kernel
theorem dX7_drawn_6 : decode cX7_drawn 6 = .ok (.iload_n 1, 1) := by decide +kernel
theorem dX7_drawn_7 : decode cX7_drawn 7 = .ok (.aload_n 0, 1) := by decide +kernel
theorem dX7_drawn_8 : decode cX7_drawn 8 = .ok (.getfield 48, 3) := by decide +kernel
theorem dX7_drawn_11 : decode cX7_drawn 11 = .ok (.if_icmp .gt 22, 3) := by decide +kernel
theorem dX7_drawn_14 : decode cX7_drawn 14 = .ok (.iload_n 1, 1) := by decide +kernel
theorem dX7_drawn_15 : decode cX7_drawn 15 = .ok (.aload_n 0, 1) := by decide +kernel
theorem dX7_drawn_16 : decode cX7_drawn 16 = .ok (.getfield 48, 3) := by decide +kernel
theorem dX7_drawn_19 : decode cX7_drawn 19 = .ok (.if_icmp .ge 11, 3) := by decide +kernel
theorem dX7_drawn_22 : decode cX7_drawn 22 = .ok (.aload_n 0, 1) := by decide +kernel
theorem dX7_drawn_23 : decode cX7_drawn 23 = .ok (.iload_n 1, 1) := by decide +kernel
theorem dX7_drawn_24 : decode cX7_drawn 24 = .ok (.invokevirtual 196, 3) := by decide +kernel
theorem dX7_drawn_27 : decode cX7_drawn 27 = .ok (.goto 5, 3) := by decide +kernel
theorem dX7_drawn_30 : decode cX7_drawn 30 = .ok (.bipush 61, 2) := by decide +kernel
theorem dX7_drawn_32 : decode cX7_drawn 32 = .ok (.ireturn, 1) := by decide +kernel
theorem dX7_drawn_33 : decode cX7_drawn 33 = .ok (.aload_n 0, 1) := by decide +kernel
theorem dX7_drawn_34 : decode cX7_drawn 34 = .ok (.invokevirtual 155, 3) := by decide +kernel
theorem dX7_drawn_37 : decode cX7_drawn 37 = .ok (.istore_n 2, 1) := by decide +kernel
theorem dX7_drawn_38 : decode cX7_drawn 38 = .ok (.iload_n 2, 1) := by decide +kernel
theorem dX7_drawn_39 : decode cX7_drawn 39 = .ok (.bipush 10, 2) := by decide +kernel
theorem dX7_drawn_41 : decode cX7_drawn 41 = .ok (.if_icmp .ge 7, 3) := by decide +kernel
theorem dX7_drawn_44 : decode cX7_drawn 44 = .ok (.iconst 1, 1) := by decide +kernel
theorem dX7_drawn_45 : decode cX7_drawn 45 = .ok (.goto 4, 3) := by decide +kernel
theorem dX7_drawn_48 : decode cX7_drawn 48 = .ok (.iconst 2, 1) := by decide +kernel
theorem dX7_drawn_49 : decode cX7_drawn 49 = .ok (.istore_n 3, 1) := by decide +kernel
theorem dX7_drawn_50 : decode cX7_drawn 50 = .ok (.iload_n 1, 1) := by decide +kernel
theorem dX7_drawn_51 : decode cX7_drawn 51 = .ok (.aload_n 0, 1) := by decide +kernel
theorem dX7_drawn_52 : decode cX7_drawn 52 = .ok (.getfield 48, 3) := by decide +kernel
theorem dX7_drawn_55 : decode cX7_drawn 55 = .ok (.isub, 1) := by decide +kernel
theorem dX7_drawn_56 : decode cX7_drawn 56 = .ok (.iconst 1, 1) := by decide +kernel
theorem dX7_drawn_57 : decode cX7_drawn 57 = .ok (.isub, 1) := by decide +kernel
theorem dX7_drawn_58 : decode cX7_drawn 58 = .ok (.istore 4, 2) := by decide +kernel
theorem dX7_drawn_60 : decode cX7_drawn 60 = .ok (.iload 4, 2) := by decide +kernel
theorem dX7_drawn_62 : decode cX7_drawn 62 = .ok (.iload_n 3, 1) := by decide +kernel
theorem dX7_drawn_63 : decode cX7_drawn 63 = .ok (.if_icmp .gt 21, 3) := by decide +kernel
theorem dX7_drawn_66 : decode cX7_drawn 66 = .ok (.iload 4, 2) := by decide +kernel
theorem dX7_drawn_68 : decode cX7_drawn 68 = .ok (.iload_n 3, 1) := by decide +kernel
theorem dX7_drawn_69 : decode cX7_drawn 69 = .ok (.if_icmp .ge 12, 3) := by decide +kernel
theorem dX7_drawn_72 : decode cX7_drawn 72 = .ok (.iload_n 2, 1) := by decide +kernel
theorem dX7_drawn_73 : decode cX7_drawn 73 = .ok (.iload 4, 2) := by decide +kernel
theorem dX7_drawn_75 : decode cX7_drawn 75 = .ok (.invokestatic 199, 3) := by decide +kernel
theorem dX7_drawn_78 : decode cX7_drawn 78 = .ok (.goto 5, 3) := by decide +kernel
theorem dX7_drawn_81 : decode cX7_drawn 81 = .ok (.bipush 32, 2) := by decide +kernel
theorem dX7_drawn_83 : decode cX7_drawn 83 = .ok (.ireturn, 1) := by decide +kernel
theorem dX7_drawn_84 : decode cX7_drawn 84 = .ok (.aload_n 0, 1) := by decide +kernel
theorem dX7_drawn_85 : decode cX7_drawn 85 = .ok (.invokevirtual 146, 3) := by decide +kernel
theorem dX7_drawn_88 : decode cX7_drawn 88 = .ok (.iload 4, 2) := by decide +kernel
theorem dX7_drawn_90 : decode cX7_drawn 90 = .ok (.iload_n 3, 1) := by decide +kernel
theorem dX7_drawn_91 : decode cX7_drawn 91 = .ok (.isub, 1) := by decide +kernel
theorem dX7_drawn_92 : decode cX7_drawn 92 = .ok (.iconst 1, 1) := by decide +kernel
theorem dX7_drawn_93 : decode cX7_drawn 93 = .ok (.isub, 1) := by decide +kernel
theorem dX7_drawn_94 : decode cX7_drawn 94 = .ok (.invokestatic 199, 3) := by decide +kernel
theorem dX7_drawn_97 : decode cX7_drawn 97 = .ok (.ireturn, 1) := by decide +kernel
theorem dX7_count_0 : decode cX7_count 0 = .ok (.iload_n 1, 1) := by decide +kernel
theorem dX7_count_1 : decode cX7_count 1 = .ok (.tableswitch 103 0 11 #[63, 68, 68, 68, 68, 68, 68, 78, 83, 88, 93, 98], 63) := by decide +kernel
theorem dX7_count_64 : decode cX7_count 64 = .ok (.aload_n 0, 1) := by decide +kernel
theorem dX7_count_65 : decode cX7_count 65 = .ok (.getfield 48, 3) := by decide +kernel
theorem dX7_count_68 : decode cX7_count 68 = .ok (.ireturn, 1) := by decide +kernel
theorem dX7_count_69 : decode cX7_count 69 = .ok (.aload_n 0, 1) := by decide +kernel
theorem dX7_count_70 : decode cX7_count 70 = .ok (.getfield 16, 3) := by decide +kernel
theorem dX7_count_73 : decode cX7_count 73 = .ok (.bipush 95, 2) := by decide +kernel
theorem dX7_count_75 : decode cX7_count 75 = .ok (.iload_n 1, 1) := by decide +kernel
theorem dX7_count_76 : decode cX7_count 76 = .ok (.iadd, 1) := by decide +kernel
theorem dX7_count_77 : decode cX7_count 77 = .ok (.iaload, 1) := by decide +kernel
theorem dX7_count_78 : decode cX7_count 78 = .ok (.ireturn, 1) := by decide +kernel
theorem dX7_count_79 : decode cX7_count 79 = .ok (.aload_n 0, 1) := by decide +kernel
theorem dX7_count_80 : decode cX7_count 80 = .ok (.invokevirtual 155, 3) := by decide +kernel
theorem dX7_count_83 : decode cX7_count 83 = .ok (.ireturn, 1) := by decide +kernel
theorem dX7_count_84 : decode cX7_count 84 = .ok (.aload_n 0, 1) := by decide +kernel
theorem dX7_count_85 : decode cX7_count 85 = .ok (.invokevirtual 146, 3) := by decide +kernel
theorem dX7_count_88 : decode cX7_count 88 = .ok (.ireturn, 1) := by decide +kernel
theorem dX7_count_89 : decode cX7_count 89 = .ok (.aload_n 0, 1) := by decide +kernel
theorem dX7_count_90 : decode cX7_count 90 = .ok (.invokevirtual 114, 3) := by decide +kernel
theorem dX7_count_93 : decode cX7_count 93 = .ok (.ireturn, 1) := by decide +kernel
theorem dX7_count_94 : decode cX7_count 94 = .ok (.aload_n 0, 1) := by decide +kernel
theorem dX7_count_95 : decode cX7_count 95 = .ok (.getfield 54, 3) := by decide +kernel
theorem dX7_count_98 : decode cX7_count 98 = .ok (.ireturn, 1) := by decide +kernel
theorem dX7_count_99 : decode cX7_count 99 = .ok (.aload_n 0, 1) := by decide +kernel
theorem dX7_count_100 : decode cX7_count 100 = .ok (.getfield 57, 3) := by decide +kernel
theorem dX7_count_103 : decode cX7_count 103 = .ok (.ireturn, 1) := by decide +kernel
theorem dX7_count_104 : decode cX7_count 104 = .ok (.iconst (-1), 1) := by decide +kernel
theorem dX7_count_105 : decode cX7_count 105 = .ok (.ireturn, 1) := by decide +kernel
end
section
theorem dX0_init_0 : decode cX0_init 0 = .ok (.aload_n 0, 1) := by decide +kernel
theorem dX0_init_1 : decode cX0_init 1 = .ok (.invokespecial 3, 3) := by decide +kernel
theorem dX0_init_4 : decode cX0_init 4 = .ok (.aload_n 0, 1) := by decide +kernel
theorem dX0_init_5 : decode cX0_init 5 = .ok (.bipush 48, 2) := by decide +kernel
theorem dX0_init_7 : decode cX0_init 7 = .ok (.newarray .int, 2) := by decide +kernel
theorem dX0_init_9 : decode cX0_init 9 = .ok (.putfield 9, 3) := by decide +kernel
theorem dX0_init_12 : decode cX0_init 12 = .ok (.aload_n 0, 1) := by decide +kernel
theorem dX0_init_13 : decode cX0_init 13 = .ok (.bipush 48, 2) := by decide +kernel
theorem dX0_init_15 : decode cX0_init 15 = .ok (.newarray .int, 2) := by decide +kernel
theorem dX0_init_17 : decode cX0_init 17 = .ok (.putfield 15, 3) := by decide +kernel
theorem dX0_init_20 : decode cX0_init 20 = .ok (.aload_n 0, 1) := by decide +kernel
theorem dX0_init_21 : decode cX0_init 21 = .ok (.bipush 48, 2) := by decide +kernel
theorem dX0_init_23 : decode cX0_init 23 = .ok (.newarray .int, 2) := by decide +kernel
theorem dX0_init_25 : decode cX0_init 25 = .ok (.putfield 18, 3) := by decide +kernel
theorem dX0_init_28 : decode cX0_init 28 = .ok (.aload_n 0, 1) := by decide +kernel
theorem dX0_init_29 : decode cX0_init 29 = .ok (.bipush 48, 2) := by decide +kernel
theorem dX0_init_31 : decode cX0_init 31 = .ok (.newarray .int, 2) := by decide +kernel
theorem dX0_init_33 : decode cX0_init 33 = .ok (.putfield 21, 3) := by decide +kernel
theorem dX0_init_36 : decode cX0_init 36 = .ok (.aload_n 0, 1) := by decide +kernel
theorem dX0_init_37 : decode cX0_init 37 = .ok (.bipush 48, 2) := by decide +kernel
theorem dX0_init_39 : decode cX0_init 39 = .ok (.newarray .int, 2) := by decide +kernel
theorem dX0_init_41 : decode cX0_init 41 = .ok (.putfield 24, 3) := by decide +kernel
theorem dX0_init_44 : decode cX0_init 44 = .ok (.return_, 1) := by decide +kernel
theorem dX0_settle_0 : decode cX0_settle 0 = .ok (.aload_n 1, 1) := by decide +kernel
theorem dX0_settle_1 : decode cX0_settle 1 = .ok (.getfield 27, 3) := by decide +kernel
theorem dX0_settle_4 : decode cX0_settle 4 = .ok (.ifCond .ne 4, 3) := by decide +kernel
theorem dX0_settle_7 : decode cX0_settle 7 = .ok (.return_, 1) := by decide +kernel
theorem dX0_settle_8 : decode cX0_settle 8 = .ok (.aload_n 1, 1) := by decide +kernel
theorem dX0_settle_9 : decode cX0_settle 9 = .ok (.iconst 0, 1) := by decide +kernel
theorem dX0_settle_10 : decode cX0_settle 10 = .ok (.putfield 27, 3) := by decide +kernel
theorem dX0_settle_13 : decode cX0_settle 13 = .ok (.aload_n 0, 1) := by decide +kernel
theorem dX0_settle_14 : decode cX0_settle 14 = .ok (.iconst 0, 1) := by decide +kernel
theorem dX0_settle_15 : decode cX0_settle 15 = .ok (.putfield 33, 3) := by decide +kernel
theorem dX0_settle_18 : decode cX0_settle 18 = .ok (.aload_n 0, 1) := by decide +kernel
theorem dX0_settle_19 : decode cX0_settle 19 = .ok (.iconst 0, 1) := by decide +kernel
theorem dX0_settle_20 : decode cX0_settle 20 = .ok (.putfield 37, 3) := by decide +kernel
theorem dX0_settle_23 : decode cX0_settle 23 = .ok (.iconst 0, 1) := by decide +kernel
theorem dX0_settle_24 : decode cX0_settle 24 = .ok (.istore_n 2, 1) := by decide +kernel
theorem dX0_settle_25 : decode cX0_settle 25 = .ok (.iload_n 2, 1) := by decide +kernel
theorem dX0_settle_26 : decode cX0_settle 26 = .ok (.aload_n 1, 1) := by decide +kernel
theorem dX0_settle_27 : decode cX0_settle 27 = .ok (.getfield 40, 3) := by decide +kernel
theorem dX0_settle_30 : decode cX0_settle 30 = .ok (.if_icmp .ge 72, 3) := by decide +kernel
theorem dX0_settle_33 : decode cX0_settle 33 = .ok (.iload_n 2, 1) := by decide +kernel
theorem dX0_settle_34 : decode cX0_settle 34 = .ok (.bipush 48, 2) := by decide +kernel
theorem dX0_settle_36 : decode cX0_settle 36 = .ok (.if_icmp .ge 66, 3) := by decide +kernel
theorem dX0_settle_39 : decode cX0_settle 39 = .ok (.aload_n 0, 1) := by decide +kernel
theorem dX0_settle_40 : decode cX0_settle 40 = .ok (.getfield 9, 3) := by decide +kernel
theorem dX0_settle_43 : decode cX0_settle 43 = .ok (.iload_n 2, 1) := by decide +kernel
theorem dX0_settle_44 : decode cX0_settle 44 = .ok (.aload_n 1, 1) := by decide +kernel
theorem dX0_settle_45 : decode cX0_settle 45 = .ok (.iload_n 2, 1) := by decide +kernel
theorem dX0_settle_46 : decode cX0_settle 46 = .ok (.bipush (-4), 2) := by decide +kernel
theorem dX0_settle_48 : decode cX0_settle 48 = .ok (.invokevirtual 43, 3) := by decide +kernel
theorem dX0_settle_51 : decode cX0_settle 51 = .ok (.iastore, 1) := by decide +kernel
theorem dX0_settle_52 : decode cX0_settle 52 = .ok (.aload_n 0, 1) := by decide +kernel
theorem dX0_settle_53 : decode cX0_settle 53 = .ok (.getfield 15, 3) := by decide +kernel
theorem dX0_settle_56 : decode cX0_settle 56 = .ok (.iload_n 2, 1) := by decide +kernel
theorem dX0_settle_57 : decode cX0_settle 57 = .ok (.bipush (-4), 2) := by decide +kernel
theorem dX0_settle_59 : decode cX0_settle 59 = .ok (.iastore, 1) := by decide +kernel
theorem dX0_settle_60 : decode cX0_settle 60 = .ok (.aload_n 1, 1) := by decide +kernel
theorem dX0_settle_61 : decode cX0_settle 61 = .ok (.iload_n 2, 1) := by decide +kernel
theorem dX0_settle_62 : decode cX0_settle 62 = .ok (.aload_n 0, 1) := by decide +kernel
theorem dX0_settle_63 : decode cX0_settle 63 = .ok (.getfield 9, 3) := by decide +kernel
theorem dX0_settle_66 : decode cX0_settle 66 = .ok (.iload_n 2, 1) := by decide +kernel
theorem dX0_settle_67 : decode cX0_settle 67 = .ok (.iaload, 1) := by decide +kernel
theorem dX0_settle_68 : decode cX0_settle 68 = .ok (.aload_n 1, 1) := by decide +kernel
theorem dX0_settle_69 : decode cX0_settle 69 = .ok (.getfield 47, 3) := by decide +kernel
theorem dX0_settle_72 : decode cX0_settle 72 = .ok (.iconst 3, 1) := by decide +kernel
theorem dX0_settle_73 : decode cX0_settle 73 = .ok (.iaload, 1) := by decide +kernel
theorem dX0_settle_74 : decode cX0_settle 74 = .ok (.invokevirtual 50, 3) := by decide +kernel
theorem dX0_settle_77 : decode cX0_settle 77 = .ok (.ifCond .eq 19, 3) := by decide +kernel
theorem dX0_settle_80 : decode cX0_settle 80 = .ok (.aload_n 0, 1) := by decide +kernel
theorem dX0_settle_81 : decode cX0_settle 81 = .ok (.dup, 1) := by decide +kernel
theorem dX0_settle_82 : decode cX0_settle 82 = .ok (.getfield 33, 3) := by decide +kernel
theorem dX0_settle_85 : decode cX0_settle 85 = .ok (.iconst 1, 1) := by decide +kernel
theorem dX0_settle_86 : decode cX0_settle 86 = .ok (.iadd, 1) := by decide +kernel
theorem dX0_settle_87 : decode cX0_settle 87 = .ok (.putfield 33, 3) := by decide +kernel
theorem dX0_settle_90 : decode cX0_settle 90 = .ok (.aload_n 0, 1) := by decide +kernel
theorem dX0_settle_91 : decode cX0_settle 91 = .ok (.iload_n 2, 1) := by decide +kernel
theorem dX0_settle_92 : decode cX0_settle 92 = .ok (.aload_n 1, 1) := by decide +kernel
theorem dX0_settle_93 : decode cX0_settle 93 = .ok (.invokevirtual 54, 3) := by decide +kernel
theorem dX0_settle_96 : decode cX0_settle 96 = .ok (.iinc 2 1, 3) := by decide +kernel
theorem dX0_settle_99 : decode cX0_settle 99 = .ok (.goto (-74), 3) := by decide +kernel
theorem dX0_settle_102 : decode cX0_settle 102 = .ok (.return_, 1) := by decide +kernel
theorem dX0_addToBunch_0 : decode cX0_addToBunch 0 = .ok (.aload_n 0, 1) := by decide +kernel
theorem dX0_addToBunch_1 : decode cX0_addToBunch 1 = .ok (.getfield 37, 3) := by decide +kernel
theorem dX0_addToBunch_4 : decode cX0_addToBunch 4 = .ok (.ifCond .le 24, 3) := by decide +kernel
theorem dX0_addToBunch_7 : decode cX0_addToBunch 7 = .ok (.aload_n 0, 1) := by decide +kernel
theorem dX0_addToBunch_8 : decode cX0_addToBunch 8 = .ok (.getfield 21, 3) := by decide +kernel
theorem dX0_addToBunch_11 : decode cX0_addToBunch 11 = .ok (.aload_n 0, 1) := by decide +kernel
theorem dX0_addToBunch_12 : decode cX0_addToBunch 12 = .ok (.getfield 37, 3) := by decide +kernel
theorem dX0_addToBunch_15 : decode cX0_addToBunch 15 = .ok (.iconst 1, 1) := by decide +kernel
theorem dX0_addToBunch_16 : decode cX0_addToBunch 16 = .ok (.isub, 1) := by decide +kernel
theorem dX0_addToBunch_17 : decode cX0_addToBunch 17 = .ok (.iaload, 1) := by decide +kernel
theorem dX0_addToBunch_18 : decode cX0_addToBunch 18 = .ok (.iload_n 1, 1) := by decide +kernel
theorem dX0_addToBunch_19 : decode cX0_addToBunch 19 = .ok (.iconst 1, 1) := by decide +kernel
theorem dX0_addToBunch_20 : decode cX0_addToBunch 20 = .ok (.isub, 1) := by decide +kernel
theorem dX0_addToBunch_21 : decode cX0_addToBunch 21 = .ok (.if_icmp .ne 7, 3) := by decide +kernel
theorem dX0_addToBunch_24 : decode cX0_addToBunch 24 = .ok (.iconst 1, 1) := by decide +kernel
theorem dX0_addToBunch_25 : decode cX0_addToBunch 25 = .ok (.goto 4, 3) := by decide +kernel
theorem dX0_addToBunch_28 : decode cX0_addToBunch 28 = .ok (.iconst 0, 1) := by decide +kernel
theorem dX0_addToBunch_29 : decode cX0_addToBunch 29 = .ok (.istore_n 3, 1) := by decide +kernel
theorem dX0_addToBunch_30 : decode cX0_addToBunch 30 = .ok (.iload_n 3, 1) := by decide +kernel
theorem dX0_addToBunch_31 : decode cX0_addToBunch 31 = .ok (.ifCond .eq 12, 3) := by decide +kernel
theorem dX0_addToBunch_34 : decode cX0_addToBunch 34 = .ok (.aload_n 0, 1) := by decide +kernel
theorem dX0_addToBunch_35 : decode cX0_addToBunch 35 = .ok (.getfield 37, 3) := by decide +kernel
theorem dX0_addToBunch_38 : decode cX0_addToBunch 38 = .ok (.iconst 1, 1) := by decide +kernel
theorem dX0_addToBunch_39 : decode cX0_addToBunch 39 = .ok (.isub, 1) := by decide +kernel
theorem dX0_addToBunch_40 : decode cX0_addToBunch 40 = .ok (.goto 7, 3) := by decide +kernel
theorem dX0_addToBunch_43 : decode cX0_addToBunch 43 = .ok (.aload_n 0, 1) := by decide +kernel
theorem dX0_addToBunch_44 : decode cX0_addToBunch 44 = .ok (.getfield 37, 3) := by decide +kernel
theorem dX0_addToBunch_47 : decode cX0_addToBunch 47 = .ok (.istore 4, 2) := by decide +kernel
theorem dX0_addToBunch_49 : decode cX0_addToBunch 49 = .ok (.iload 4, 2) := by decide +kernel
theorem dX0_addToBunch_51 : decode cX0_addToBunch 51 = .ok (.bipush 48, 2) := by decide +kernel
theorem dX0_addToBunch_53 : decode cX0_addToBunch 53 = .ok (.if_icmp .lt 4, 3) := by decide +kernel
theorem dX0_addToBunch_56 : decode cX0_addToBunch 56 = .ok (.return_, 1) := by decide +kernel
theorem dX0_addToBunch_57 : decode cX0_addToBunch 57 = .ok (.iload_n 3, 1) := by decide +kernel
theorem dX0_addToBunch_58 : decode cX0_addToBunch 58 = .ok (.ifCond .ne 29, 3) := by decide +kernel
theorem dX0_addToBunch_61 : decode cX0_addToBunch 61 = .ok (.aload_n 0, 1) := by decide +kernel
theorem dX0_addToBunch_62 : decode cX0_addToBunch 62 = .ok (.getfield 18, 3) := by decide +kernel
theorem dX0_addToBunch_65 : decode cX0_addToBunch 65 = .ok (.iload 4, 2) := by decide +kernel
theorem dX0_addToBunch_67 : decode cX0_addToBunch 67 = .ok (.iload_n 1, 1) := by decide +kernel
theorem dX0_addToBunch_68 : decode cX0_addToBunch 68 = .ok (.iastore, 1) := by decide +kernel
theorem dX0_addToBunch_69 : decode cX0_addToBunch 69 = .ok (.aload_n 0, 1) := by decide +kernel
theorem dX0_addToBunch_70 : decode cX0_addToBunch 70 = .ok (.getfield 24, 3) := by decide +kernel
theorem dX0_addToBunch_73 : decode cX0_addToBunch 73 = .ok (.iload 4, 2) := by decide +kernel
theorem dX0_addToBunch_75 : decode cX0_addToBunch 75 = .ok (.iload_n 1, 1) := by decide +kernel
theorem dX0_addToBunch_76 : decode cX0_addToBunch 76 = .ok (.iastore, 1) := by decide +kernel
theorem dX0_addToBunch_77 : decode cX0_addToBunch 77 = .ok (.aload_n 0, 1) := by decide +kernel
theorem dX0_addToBunch_78 : decode cX0_addToBunch 78 = .ok (.dup, 1) := by decide +kernel
theorem dX0_addToBunch_79 : decode cX0_addToBunch 79 = .ok (.getfield 37, 3) := by decide +kernel
theorem dX0_addToBunch_82 : decode cX0_addToBunch 82 = .ok (.iconst 1, 1) := by decide +kernel
theorem dX0_addToBunch_83 : decode cX0_addToBunch 83 = .ok (.iadd, 1) := by decide +kernel
theorem dX0_addToBunch_84 : decode cX0_addToBunch 84 = .ok (.putfield 37, 3) := by decide +kernel
theorem dX0_addToBunch_87 : decode cX0_addToBunch 87 = .ok (.aload_n 0, 1) := by decide +kernel
theorem dX0_addToBunch_88 : decode cX0_addToBunch 88 = .ok (.getfield 21, 3) := by decide +kernel
theorem dX0_addToBunch_91 : decode cX0_addToBunch 91 = .ok (.iload 4, 2) := by decide +kernel
theorem dX0_addToBunch_93 : decode cX0_addToBunch 93 = .ok (.iload_n 1, 1) := by decide +kernel
theorem dX0_addToBunch_94 : decode cX0_addToBunch 94 = .ok (.iastore, 1) := by decide +kernel
theorem dX0_addToBunch_95 : decode cX0_addToBunch 95 = .ok (.aload_n 0, 1) := by decide +kernel
theorem dX0_addToBunch_96 : decode cX0_addToBunch 96 = .ok (.getfield 15, 3) := by decide +kernel
theorem dX0_addToBunch_99 : decode cX0_addToBunch 99 = .ok (.iload_n 1, 1) := by decide +kernel
theorem dX0_addToBunch_100 : decode cX0_addToBunch 100 = .ok (.iload 4, 2) := by decide +kernel
theorem dX0_addToBunch_102 : decode cX0_addToBunch 102 = .ok (.iastore, 1) := by decide +kernel
theorem dX0_addToBunch_103 : decode cX0_addToBunch 103 = .ok (.aload_n 2, 1) := by decide +kernel
theorem dX0_addToBunch_104 : decode cX0_addToBunch 104 = .ok (.getfield 58, 3) := by decide +kernel
theorem dX0_addToBunch_107 : decode cX0_addToBunch 107 = .ok (.iload_n 1, 1) := by decide +kernel
theorem dX0_addToBunch_108 : decode cX0_addToBunch 108 = .ok (.iaload, 1) := by decide +kernel
theorem dX0_addToBunch_109 : decode cX0_addToBunch 109 = .ok (.aload_n 2, 1) := by decide +kernel
theorem dX0_addToBunch_110 : decode cX0_addToBunch 110 = .ok (.getfield 58, 3) := by decide +kernel
theorem dX0_addToBunch_113 : decode cX0_addToBunch 113 = .ok (.aload_n 0, 1) := by decide +kernel
theorem dX0_addToBunch_114 : decode cX0_addToBunch 114 = .ok (.getfield 24, 3) := by decide +kernel
theorem dX0_addToBunch_117 : decode cX0_addToBunch 117 = .ok (.iload 4, 2) := by decide +kernel
theorem dX0_addToBunch_119 : decode cX0_addToBunch 119 = .ok (.iaload, 1) := by decide +kernel
theorem dX0_addToBunch_120 : decode cX0_addToBunch 120 = .ok (.iaload, 1) := by decide +kernel
theorem dX0_addToBunch_121 : decode cX0_addToBunch 121 = .ok (.if_icmp .le 11, 3) := by decide +kernel
theorem dX0_addToBunch_124 : decode cX0_addToBunch 124 = .ok (.aload_n 0, 1) := by decide +kernel
theorem dX0_addToBunch_125 : decode cX0_addToBunch 125 = .ok (.getfield 24, 3) := by decide +kernel
theorem dX0_addToBunch_128 : decode cX0_addToBunch 128 = .ok (.iload 4, 2) := by decide +kernel
theorem dX0_addToBunch_130 : decode cX0_addToBunch 130 = .ok (.iload_n 1, 1) := by decide +kernel
theorem dX0_addToBunch_131 : decode cX0_addToBunch 131 = .ok (.iastore, 1) := by decide +kernel
theorem dX0_addToBunch_132 : decode cX0_addToBunch 132 = .ok (.return_, 1) := by decide +kernel
theorem dX0_howManyBy_0 : decode cX0_howManyBy 0 = .ok (.iconst 0, 1) := by decide +kernel
theorem dX0_howManyBy_1 : decode cX0_howManyBy 1 = .ok (.istore_n 3, 1) := by decide +kernel
theorem dX0_howManyBy_2 : decode cX0_howManyBy 2 = .ok (.iconst 0, 1) := by decide +kernel
theorem dX0_howManyBy_3 : decode cX0_howManyBy 3 = .ok (.istore 4, 2) := by decide +kernel
theorem dX0_howManyBy_5 : decode cX0_howManyBy 5 = .ok (.iload 4, 2) := by decide +kernel
theorem dX0_howManyBy_7 : decode cX0_howManyBy 7 = .ok (.aload_n 2, 1) := by decide +kernel
theorem dX0_howManyBy_8 : decode cX0_howManyBy 8 = .ok (.getfield 40, 3) := by decide +kernel
theorem dX0_howManyBy_11 : decode cX0_howManyBy 11 = .ok (.if_icmp .ge 36, 3) := by decide +kernel
theorem dX0_howManyBy_14 : decode cX0_howManyBy 14 = .ok (.iload 4, 2) := by decide +kernel
theorem dX0_howManyBy_16 : decode cX0_howManyBy 16 = .ok (.bipush 48, 2) := by decide +kernel
theorem dX0_howManyBy_18 : decode cX0_howManyBy 18 = .ok (.if_icmp .ge 29, 3) := by decide +kernel
theorem dX0_howManyBy_21 : decode cX0_howManyBy 21 = .ok (.aload_n 2, 1) := by decide +kernel
theorem dX0_howManyBy_22 : decode cX0_howManyBy 22 = .ok (.iload 4, 2) := by decide +kernel
theorem dX0_howManyBy_24 : decode cX0_howManyBy 24 = .ok (.aload_n 0, 1) := by decide +kernel
theorem dX0_howManyBy_25 : decode cX0_howManyBy 25 = .ok (.getfield 9, 3) := by decide +kernel
theorem dX0_howManyBy_28 : decode cX0_howManyBy 28 = .ok (.iload 4, 2) := by decide +kernel
theorem dX0_howManyBy_30 : decode cX0_howManyBy 30 = .ok (.iaload, 1) := by decide +kernel
theorem dX0_howManyBy_31 : decode cX0_howManyBy 31 = .ok (.iload_n 1, 1) := by decide +kernel
theorem dX0_howManyBy_32 : decode cX0_howManyBy 32 = .ok (.invokevirtual 50, 3) := by decide +kernel
theorem dX0_howManyBy_35 : decode cX0_howManyBy 35 = .ok (.ifCond .eq 6, 3) := by decide +kernel
theorem dX0_howManyBy_38 : decode cX0_howManyBy 38 = .ok (.iinc 3 1, 3) := by decide +kernel
theorem dX0_howManyBy_41 : decode cX0_howManyBy 41 = .ok (.iinc 4 1, 3) := by decide +kernel
theorem dX0_howManyBy_44 : decode cX0_howManyBy 44 = .ok (.goto (-39), 3) := by decide +kernel
theorem dX0_howManyBy_47 : decode cX0_howManyBy 47 = .ok (.iload_n 3, 1) := by decide +kernel
theorem dX0_howManyBy_48 : decode cX0_howManyBy 48 = .ok (.ireturn, 1) := by decide +kernel
theorem dX0_letterOf_0 : decode cX0_letterOf 0 = .ok (.aload_n 0, 1) := by decide +kernel
theorem dX0_letterOf_1 : decode cX0_letterOf 1 = .ok (.getfield 15, 3) := by decide +kernel
theorem dX0_letterOf_4 : decode cX0_letterOf 4 = .ok (.iload_n 1, 1) := by decide +kernel
theorem dX0_letterOf_5 : decode cX0_letterOf 5 = .ok (.iaload, 1) := by decide +kernel
theorem dX0_letterOf_6 : decode cX0_letterOf 6 = .ok (.istore_n 2, 1) := by decide +kernel
theorem dX0_letterOf_7 : decode cX0_letterOf 7 = .ok (.iload_n 2, 1) := by decide +kernel
theorem dX0_letterOf_8 : decode cX0_letterOf 8 = .ok (.ifCond .lt 11, 3) := by decide +kernel
theorem dX0_letterOf_11 : decode cX0_letterOf 11 = .ok (.iload_n 2, 1) := by decide +kernel
theorem dX0_letterOf_12 : decode cX0_letterOf 12 = .ok (.aload_n 0, 1) := by decide +kernel
theorem dX0_letterOf_13 : decode cX0_letterOf 13 = .ok (.getfield 37, 3) := by decide +kernel
theorem dX0_letterOf_16 : decode cX0_letterOf 16 = .ok (.if_icmp .lt 6, 3) := by decide +kernel
theorem dX0_letterOf_19 : decode cX0_letterOf 19 = .ok (.bipush 46, 2) := by decide +kernel
theorem dX0_letterOf_21 : decode cX0_letterOf 21 = .ok (.ireturn, 1) := by decide +kernel
theorem dX0_letterOf_22 : decode cX0_letterOf 22 = .ok (.aload_n 0, 1) := by decide +kernel
theorem dX0_letterOf_23 : decode cX0_letterOf 23 = .ok (.getfield 24, 3) := by decide +kernel
theorem dX0_letterOf_26 : decode cX0_letterOf 26 = .ok (.iload_n 2, 1) := by decide +kernel
theorem dX0_letterOf_27 : decode cX0_letterOf 27 = .ok (.iaload, 1) := by decide +kernel
theorem dX0_letterOf_28 : decode cX0_letterOf 28 = .ok (.iload_n 1, 1) := by decide +kernel
theorem dX0_letterOf_29 : decode cX0_letterOf 29 = .ok (.if_icmp .ne 8, 3) := by decide +kernel
theorem dX0_letterOf_32 : decode cX0_letterOf 32 = .ok (.bipush 94, 2) := by decide +kernel
theorem dX0_letterOf_34 : decode cX0_letterOf 34 = .ok (.goto 5, 3) := by decide +kernel
theorem dX0_letterOf_37 : decode cX0_letterOf 37 = .ok (.bipush 33, 2) := by decide +kernel
theorem dX0_letterOf_39 : decode cX0_letterOf 39 = .ok (.ireturn, 1) := by decide +kernel
theorem dX1_init_0 : decode cX1_init 0 = .ok (.aload_n 0, 1) := by decide +kernel
theorem dX1_init_1 : decode cX1_init 1 = .ok (.invokespecial 3, 3) := by decide +kernel
theorem dX1_init_4 : decode cX1_init 4 = .ok (.aload_n 0, 1) := by decide +kernel
theorem dX1_init_5 : decode cX1_init 5 = .ok (.bipush 8, 2) := by decide +kernel
theorem dX1_init_7 : decode cX1_init 7 = .ok (.newarray .int, 2) := by decide +kernel
theorem dX1_init_9 : decode cX1_init 9 = .ok (.putfield 9, 3) := by decide +kernel
theorem dX1_init_12 : decode cX1_init 12 = .ok (.aload_n 0, 1) := by decide +kernel
theorem dX1_init_13 : decode cX1_init 13 = .ok (.bipush 13, 2) := by decide +kernel
theorem dX1_init_15 : decode cX1_init 15 = .ok (.newarray .long, 2) := by decide +kernel
theorem dX1_init_17 : decode cX1_init 17 = .ok (.putfield 15, 3) := by decide +kernel
theorem dX1_init_20 : decode cX1_init 20 = .ok (.aload_n 0, 1) := by decide +kernel
theorem dX1_init_21 : decode cX1_init 21 = .ok (.bipush 8, 2) := by decide +kernel
theorem dX1_init_23 : decode cX1_init 23 = .ok (.newarray .long, 2) := by decide +kernel
theorem dX1_init_25 : decode cX1_init 25 = .ok (.putfield 19, 3) := by decide +kernel
theorem dX1_init_28 : decode cX1_init 28 = .ok (.return_, 1) := by decide +kernel
theorem dX1_take_0 : decode cX1_take 0 = .ok (.aload_n 0, 1) := by decide +kernel
theorem dX1_take_1 : decode cX1_take 1 = .ok (.iconst 0, 1) := by decide +kernel
theorem dX1_take_2 : decode cX1_take 2 = .ok (.putfield 22, 3) := by decide +kernel
theorem dX1_take_5 : decode cX1_take 5 = .ok (.iconst 0, 1) := by decide +kernel
theorem dX1_take_6 : decode cX1_take 6 = .ok (.istore_n 2, 1) := by decide +kernel
theorem dX1_take_7 : decode cX1_take 7 = .ok (.iload_n 2, 1) := by decide +kernel
theorem dX1_take_8 : decode cX1_take 8 = .ok (.bipush 8, 2) := by decide +kernel
theorem dX1_take_10 : decode cX1_take 10 = .ok (.if_icmp .ge 36, 3) := by decide +kernel
theorem dX1_take_13 : decode cX1_take 13 = .ok (.aload_n 0, 1) := by decide +kernel
theorem dX1_take_14 : decode cX1_take 14 = .ok (.getfield 9, 3) := by decide +kernel
theorem dX1_take_17 : decode cX1_take 17 = .ok (.iload_n 2, 1) := by decide +kernel
theorem dX1_take_18 : decode cX1_take 18 = .ok (.aload_n 1, 1) := by decide +kernel
theorem dX1_take_19 : decode cX1_take 19 = .ok (.getfield 26, 3) := by decide +kernel
theorem dX1_take_22 : decode cX1_take 22 = .ok (.iload_n 2, 1) := by decide +kernel
theorem dX1_take_23 : decode cX1_take 23 = .ok (.iaload, 1) := by decide +kernel
theorem dX1_take_24 : decode cX1_take 24 = .ok (.iastore, 1) := by decide +kernel
theorem dX1_take_25 : decode cX1_take 25 = .ok (.aload_n 0, 1) := by decide +kernel
theorem dX1_take_26 : decode cX1_take 26 = .ok (.dup, 1) := by decide +kernel
theorem dX1_take_27 : decode cX1_take 27 = .ok (.getfield 22, 3) := by decide +kernel
theorem dX1_take_30 : decode cX1_take 30 = .ok (.aload_n 0, 1) := by decide +kernel
theorem dX1_take_31 : decode cX1_take 31 = .ok (.getfield 9, 3) := by decide +kernel
theorem dX1_take_34 : decode cX1_take 34 = .ok (.iload_n 2, 1) := by decide +kernel
theorem dX1_take_35 : decode cX1_take 35 = .ok (.iaload, 1) := by decide +kernel
theorem dX1_take_36 : decode cX1_take 36 = .ok (.iadd, 1) := by decide +kernel
theorem dX1_take_37 : decode cX1_take 37 = .ok (.putfield 22, 3) := by decide +kernel
theorem dX1_take_40 : decode cX1_take 40 = .ok (.iinc 2 1, 3) := by decide +kernel
theorem dX1_take_43 : decode cX1_take 43 = .ok (.goto (-36), 3) := by decide +kernel
theorem dX1_take_46 : decode cX1_take 46 = .ok (.return_, 1) := by decide +kernel
theorem dX1_countFloors_0 : decode cX1_countFloors 0 = .ok (.iconst 0, 1) := by decide +kernel
theorem dX1_countFloors_1 : decode cX1_countFloors 1 = .ok (.istore_n 3, 1) := by decide +kernel
theorem dX1_countFloors_2 : decode cX1_countFloors 2 = .ok (.lconst 0, 1) := by decide +kernel
theorem dX1_countFloors_3 : decode cX1_countFloors 3 = .ok (.lstore 4, 2) := by decide +kernel
theorem dX1_countFloors_5 : decode cX1_countFloors 5 = .ok (.iconst 0, 1) := by decide +kernel
theorem dX1_countFloors_6 : decode cX1_countFloors 6 = .ok (.istore 6, 2) := by decide +kernel
theorem dX1_countFloors_8 : decode cX1_countFloors 8 = .ok (.iload 6, 2) := by decide +kernel
theorem dX1_countFloors_10 : decode cX1_countFloors 10 = .ok (.bipush 8, 2) := by decide +kernel
theorem dX1_countFloors_12 : decode cX1_countFloors 12 = .ok (.if_icmp .ge 49, 3) := by decide +kernel
theorem dX1_countFloors_15 : decode cX1_countFloors 15 = .ok (.iload_n 3, 1) := by decide +kernel
theorem dX1_countFloors_16 : decode cX1_countFloors 16 = .ok (.aload_n 0, 1) := by decide +kernel
theorem dX1_countFloors_17 : decode cX1_countFloors 17 = .ok (.getfield 9, 3) := by decide +kernel
theorem dX1_countFloors_20 : decode cX1_countFloors 20 = .ok (.iload 6, 2) := by decide +kernel
theorem dX1_countFloors_22 : decode cX1_countFloors 22 = .ok (.iaload, 1) := by decide +kernel
theorem dX1_countFloors_23 : decode cX1_countFloors 23 = .ok (.iadd, 1) := by decide +kernel
theorem dX1_countFloors_24 : decode cX1_countFloors 24 = .ok (.istore_n 3, 1) := by decide +kernel
theorem dX1_countFloors_25 : decode cX1_countFloors 25 = .ok (.aload_n 0, 1) := by decide +kernel
theorem dX1_countFloors_26 : decode cX1_countFloors 26 = .ok (.iload_n 3, 1) := by decide +kernel
theorem dX1_countFloors_27 : decode cX1_countFloors 27 = .ok (.aload_n 1, 1) := by decide +kernel
theorem dX1_countFloors_28 : decode cX1_countFloors 28 = .ok (.iconst 0, 1) := by decide +kernel
theorem dX1_countFloors_29 : decode cX1_countFloors 29 = .ok (.iaload, 1) := by decide +kernel
theorem dX1_countFloors_30 : decode cX1_countFloors 30 = .ok (.aload_n 1, 1) := by decide +kernel
theorem dX1_countFloors_31 : decode cX1_countFloors 31 = .ok (.iconst 2, 1) := by decide +kernel
theorem dX1_countFloors_32 : decode cX1_countFloors 32 = .ok (.iaload, 1) := by decide +kernel
theorem dX1_countFloors_33 : decode cX1_countFloors 33 = .ok (.iload_n 2, 1) := by decide +kernel
theorem dX1_countFloors_34 : decode cX1_countFloors 34 = .ok (.invokevirtual 29, 3) := by decide +kernel
theorem dX1_countFloors_37 : decode cX1_countFloors 37 = .ok (.lstore 7, 2) := by decide +kernel
theorem dX1_countFloors_39 : decode cX1_countFloors 39 = .ok (.aload_n 0, 1) := by decide +kernel
theorem dX1_countFloors_40 : decode cX1_countFloors 40 = .ok (.getfield 19, 3) := by decide +kernel
theorem dX1_countFloors_43 : decode cX1_countFloors 43 = .ok (.iload 6, 2) := by decide +kernel
theorem dX1_countFloors_45 : decode cX1_countFloors 45 = .ok (.lload 7, 2) := by decide +kernel
theorem dX1_countFloors_47 : decode cX1_countFloors 47 = .ok (.lload 4, 2) := by decide +kernel
theorem dX1_countFloors_49 : decode cX1_countFloors 49 = .ok (.lsub, 1) := by decide +kernel
theorem dX1_countFloors_50 : decode cX1_countFloors 50 = .ok (.lastore, 1) := by decide +kernel
theorem dX1_countFloors_51 : decode cX1_countFloors 51 = .ok (.lload 7, 2) := by decide +kernel
theorem dX1_countFloors_53 : decode cX1_countFloors 53 = .ok (.lstore 4, 2) := by decide +kernel
theorem dX1_countFloors_55 : decode cX1_countFloors 55 = .ok (.iinc 6 1, 3) := by decide +kernel
theorem dX1_countFloors_58 : decode cX1_countFloors 58 = .ok (.goto (-50), 3) := by decide +kernel
theorem dX1_countFloors_61 : decode cX1_countFloors 61 = .ok (.return_, 1) := by decide +kernel
theorem dX1_waysOfFloorAtMost_0 : decode cX1_waysOfFloorAtMost 0 = .ok (.iload 4, 2) := by decide +kernel
theorem dX1_waysOfFloorAtMost_2 : decode cX1_waysOfFloorAtMost 2 = .ok (.ifCond .ne 13, 3) := by decide +kernel
theorem dX1_waysOfFloorAtMost_5 : decode cX1_waysOfFloorAtMost 5 = .ok (.aload_n 0, 1) := by decide +kernel
theorem dX1_waysOfFloorAtMost_6 : decode cX1_waysOfFloorAtMost 6 = .ok (.iload_n 1, 1) := by decide +kernel
theorem dX1_waysOfFloorAtMost_7 : decode cX1_waysOfFloorAtMost 7 = .ok (.iconst 2, 1) := by decide +kernel
theorem dX1_waysOfFloorAtMost_8 : decode cX1_waysOfFloorAtMost 8 = .ok (.iload_n 2, 1) := by decide +kernel
theorem dX1_waysOfFloorAtMost_9 : decode cX1_waysOfFloorAtMost 9 = .ok (.imul, 1) := by decide +kernel
theorem dX1_waysOfFloorAtMost_10 : decode cX1_waysOfFloorAtMost 10 = .ok (.iload_n 3, 1) := by decide +kernel
theorem dX1_waysOfFloorAtMost_11 : decode cX1_waysOfFloorAtMost 11 = .ok (.invokevirtual 33, 3) := by decide +kernel
theorem dX1_waysOfFloorAtMost_14 : decode cX1_waysOfFloorAtMost 14 = .ok (.lreturn, 1) := by decide +kernel
theorem dX1_waysOfFloorAtMost_15 : decode cX1_waysOfFloorAtMost 15 = .ok (.aload_n 0, 1) := by decide +kernel
theorem dX1_waysOfFloorAtMost_16 : decode cX1_waysOfFloorAtMost 16 = .ok (.iload_n 1, 1) := by decide +kernel
theorem dX1_waysOfFloorAtMost_17 : decode cX1_waysOfFloorAtMost 17 = .ok (.iload_n 2, 1) := by decide +kernel
theorem dX1_waysOfFloorAtMost_18 : decode cX1_waysOfFloorAtMost 18 = .ok (.iload_n 3, 1) := by decide +kernel
theorem dX1_waysOfFloorAtMost_19 : decode cX1_waysOfFloorAtMost 19 = .ok (.invokevirtual 33, 3) := by decide +kernel
theorem dX1_waysOfFloorAtMost_22 : decode cX1_waysOfFloorAtMost 22 = .ok (.lstore 5, 2) := by decide +kernel
theorem dX1_waysOfFloorAtMost_24 : decode cX1_waysOfFloorAtMost 24 = .ok (.iload 4, 2) := by decide +kernel
theorem dX1_waysOfFloorAtMost_26 : decode cX1_waysOfFloorAtMost 26 = .ok (.iconst 1, 1) := by decide +kernel
theorem dX1_waysOfFloorAtMost_27 : decode cX1_waysOfFloorAtMost 27 = .ok (.if_icmp .ne 9, 3) := by decide +kernel
theorem dX1_waysOfFloorAtMost_30 : decode cX1_waysOfFloorAtMost 30 = .ok (.lload 5, 2) := by decide +kernel
theorem dX1_waysOfFloorAtMost_32 : decode cX1_waysOfFloorAtMost 32 = .ok (.lload 5, 2) := by decide +kernel
theorem dX1_waysOfFloorAtMost_34 : decode cX1_waysOfFloorAtMost 34 = .ok (.lmul, 1) := by decide +kernel
theorem dX1_waysOfFloorAtMost_35 : decode cX1_waysOfFloorAtMost 35 = .ok (.lreturn, 1) := by decide +kernel
theorem dX1_waysOfFloorAtMost_36 : decode cX1_waysOfFloorAtMost 36 = .ok (.aload_n 0, 1) := by decide +kernel
theorem dX1_waysOfFloorAtMost_37 : decode cX1_waysOfFloorAtMost 37 = .ok (.iload_n 2, 1) := by decide +kernel
theorem dX1_waysOfFloorAtMost_38 : decode cX1_waysOfFloorAtMost 38 = .ok (.invokevirtual 37, 3) := by decide +kernel
theorem dX1_waysOfFloorAtMost_41 : decode cX1_waysOfFloorAtMost 41 = .ok (.lstore 7, 2) := by decide +kernel
theorem dX1_waysOfFloorAtMost_43 : decode cX1_waysOfFloorAtMost 43 = .ok (.lload 7, 2) := by decide +kernel
theorem dX1_waysOfFloorAtMost_45 : decode cX1_waysOfFloorAtMost 45 = .ok (.lload 7, 2) := by decide +kernel
theorem dX1_waysOfFloorAtMost_47 : decode cX1_waysOfFloorAtMost 47 = .ok (.lmul, 1) := by decide +kernel
theorem dX1_waysOfFloorAtMost_48 : decode cX1_waysOfFloorAtMost 48 = .ok (.lload 7, 2) := by decide +kernel
theorem dX1_waysOfFloorAtMost_50 : decode cX1_waysOfFloorAtMost 50 = .ok (.lload 5, 2) := by decide +kernel
theorem dX1_waysOfFloorAtMost_52 : decode cX1_waysOfFloorAtMost 52 = .ok (.lsub, 1) := by decide +kernel
theorem dX1_waysOfFloorAtMost_53 : decode cX1_waysOfFloorAtMost 53 = .ok (.lload 7, 2) := by decide +kernel
theorem dX1_waysOfFloorAtMost_55 : decode cX1_waysOfFloorAtMost 55 = .ok (.lload 5, 2) := by decide +kernel
theorem dX1_waysOfFloorAtMost_57 : decode cX1_waysOfFloorAtMost 57 = .ok (.lsub, 1) := by decide +kernel
theorem dX1_waysOfFloorAtMost_58 : decode cX1_waysOfFloorAtMost 58 = .ok (.lmul, 1) := by decide +kernel
theorem dX1_waysOfFloorAtMost_59 : decode cX1_waysOfFloorAtMost 59 = .ok (.lsub, 1) := by decide +kernel
theorem dX1_waysOfFloorAtMost_60 : decode cX1_waysOfFloorAtMost 60 = .ok (.lreturn, 1) := by decide +kernel
theorem dX1_waysOfRankAtMost_0 : decode cX1_waysOfRankAtMost 0 = .ok (.aload_n 0, 1) := by decide +kernel
theorem dX1_waysOfRankAtMost_1 : decode cX1_waysOfRankAtMost 1 = .ok (.getfield 22, 3) := by decide +kernel
theorem dX1_waysOfRankAtMost_4 : decode cX1_waysOfRankAtMost 4 = .ok (.iload_n 1, 1) := by decide +kernel
theorem dX1_waysOfRankAtMost_5 : decode cX1_waysOfRankAtMost 5 = .ok (.isub, 1) := by decide +kernel
theorem dX1_waysOfRankAtMost_6 : decode cX1_waysOfRankAtMost 6 = .ok (.istore 4, 2) := by decide +kernel
theorem dX1_waysOfRankAtMost_8 : decode cX1_waysOfRankAtMost 8 = .ok (.aload_n 0, 1) := by decide +kernel
theorem dX1_waysOfRankAtMost_9 : decode cX1_waysOfRankAtMost 9 = .ok (.getfield 15, 3) := by decide +kernel
theorem dX1_waysOfRankAtMost_12 : decode cX1_waysOfRankAtMost 12 = .ok (.lconst 0, 1) := by decide +kernel
theorem dX1_waysOfRankAtMost_13 : decode cX1_waysOfRankAtMost 13 = .ok (.invokestatic 41, 3) := by decide +kernel
theorem dX1_waysOfRankAtMost_16 : decode cX1_waysOfRankAtMost 16 = .ok (.aload_n 0, 1) := by decide +kernel
theorem dX1_waysOfRankAtMost_17 : decode cX1_waysOfRankAtMost 17 = .ok (.getfield 15, 3) := by decide +kernel
theorem dX1_waysOfRankAtMost_20 : decode cX1_waysOfRankAtMost 20 = .ok (.iconst 0, 1) := by decide +kernel
theorem dX1_waysOfRankAtMost_21 : decode cX1_waysOfRankAtMost 21 = .ok (.lconst 1, 1) := by decide +kernel
theorem dX1_waysOfRankAtMost_22 : decode cX1_waysOfRankAtMost 22 = .ok (.lastore, 1) := by decide +kernel
theorem dX1_waysOfRankAtMost_23 : decode cX1_waysOfRankAtMost 23 = .ok (.iconst 1, 1) := by decide +kernel
theorem dX1_waysOfRankAtMost_24 : decode cX1_waysOfRankAtMost 24 = .ok (.istore 5, 2) := by decide +kernel
theorem dX1_waysOfRankAtMost_26 : decode cX1_waysOfRankAtMost 26 = .ok (.iload 5, 2) := by decide +kernel
theorem dX1_waysOfRankAtMost_28 : decode cX1_waysOfRankAtMost 28 = .ok (.iload_n 2, 1) := by decide +kernel
theorem dX1_waysOfRankAtMost_29 : decode cX1_waysOfRankAtMost 29 = .ok (.if_icmp .gt 74, 3) := by decide +kernel
theorem dX1_waysOfRankAtMost_32 : decode cX1_waysOfRankAtMost 32 = .ok (.iload 5, 2) := by decide +kernel
theorem dX1_waysOfRankAtMost_34 : decode cX1_waysOfRankAtMost 34 = .ok (.bipush 12, 2) := by decide +kernel
theorem dX1_waysOfRankAtMost_36 : decode cX1_waysOfRankAtMost 36 = .ok (.if_icmp .gt 67, 3) := by decide +kernel
theorem dX1_waysOfRankAtMost_39 : decode cX1_waysOfRankAtMost 39 = .ok (.iload 5, 2) := by decide +kernel
theorem dX1_waysOfRankAtMost_41 : decode cX1_waysOfRankAtMost 41 = .ok (.istore 6, 2) := by decide +kernel
theorem dX1_waysOfRankAtMost_43 : decode cX1_waysOfRankAtMost 43 = .ok (.iload 6, 2) := by decide +kernel
theorem dX1_waysOfRankAtMost_45 : decode cX1_waysOfRankAtMost 45 = .ok (.ifCond .le 40, 3) := by decide +kernel
theorem dX1_waysOfRankAtMost_48 : decode cX1_waysOfRankAtMost 48 = .ok (.aload_n 0, 1) := by decide +kernel
theorem dX1_waysOfRankAtMost_49 : decode cX1_waysOfRankAtMost 49 = .ok (.getfield 15, 3) := by decide +kernel
theorem dX1_waysOfRankAtMost_52 : decode cX1_waysOfRankAtMost 52 = .ok (.iload 6, 2) := by decide +kernel
theorem dX1_waysOfRankAtMost_54 : decode cX1_waysOfRankAtMost 54 = .ok (.aload_n 0, 1) := by decide +kernel
theorem dX1_waysOfRankAtMost_55 : decode cX1_waysOfRankAtMost 55 = .ok (.getfield 15, 3) := by decide +kernel
theorem dX1_waysOfRankAtMost_58 : decode cX1_waysOfRankAtMost 58 = .ok (.iload 6, 2) := by decide +kernel
theorem dX1_waysOfRankAtMost_60 : decode cX1_waysOfRankAtMost 60 = .ok (.laload, 1) := by decide +kernel
theorem dX1_waysOfRankAtMost_61 : decode cX1_waysOfRankAtMost 61 = .ok (.iload 4, 2) := by decide +kernel
theorem dX1_waysOfRankAtMost_63 : decode cX1_waysOfRankAtMost 63 = .ok (.i2l, 1) := by decide +kernel
theorem dX1_waysOfRankAtMost_64 : decode cX1_waysOfRankAtMost 64 = .ok (.lmul, 1) := by decide +kernel
theorem dX1_waysOfRankAtMost_65 : decode cX1_waysOfRankAtMost 65 = .ok (.aload_n 0, 1) := by decide +kernel
theorem dX1_waysOfRankAtMost_66 : decode cX1_waysOfRankAtMost 66 = .ok (.getfield 15, 3) := by decide +kernel
theorem dX1_waysOfRankAtMost_69 : decode cX1_waysOfRankAtMost 69 = .ok (.iload 6, 2) := by decide +kernel
theorem dX1_waysOfRankAtMost_71 : decode cX1_waysOfRankAtMost 71 = .ok (.iconst 1, 1) := by decide +kernel
theorem dX1_waysOfRankAtMost_72 : decode cX1_waysOfRankAtMost 72 = .ok (.isub, 1) := by decide +kernel
theorem dX1_waysOfRankAtMost_73 : decode cX1_waysOfRankAtMost 73 = .ok (.laload, 1) := by decide +kernel
theorem dX1_waysOfRankAtMost_74 : decode cX1_waysOfRankAtMost 74 = .ok (.iload_n 1, 1) := by decide +kernel
theorem dX1_waysOfRankAtMost_75 : decode cX1_waysOfRankAtMost 75 = .ok (.i2l, 1) := by decide +kernel
theorem dX1_waysOfRankAtMost_76 : decode cX1_waysOfRankAtMost 76 = .ok (.lmul, 1) := by decide +kernel
theorem dX1_waysOfRankAtMost_77 : decode cX1_waysOfRankAtMost 77 = .ok (.ladd, 1) := by decide +kernel
theorem dX1_waysOfRankAtMost_78 : decode cX1_waysOfRankAtMost 78 = .ok (.lastore, 1) := by decide +kernel
theorem dX1_waysOfRankAtMost_79 : decode cX1_waysOfRankAtMost 79 = .ok (.iinc 6 (-1), 3) := by decide +kernel
theorem dX1_waysOfRankAtMost_82 : decode cX1_waysOfRankAtMost 82 = .ok (.goto (-39), 3) := by decide +kernel
theorem dX1_waysOfRankAtMost_85 : decode cX1_waysOfRankAtMost 85 = .ok (.aload_n 0, 1) := by decide +kernel
theorem dX1_waysOfRankAtMost_86 : decode cX1_waysOfRankAtMost 86 = .ok (.getfield 15, 3) := by decide +kernel
theorem dX1_waysOfRankAtMost_89 : decode cX1_waysOfRankAtMost 89 = .ok (.iconst 0, 1) := by decide +kernel
theorem dX1_waysOfRankAtMost_90 : decode cX1_waysOfRankAtMost 90 = .ok (.dup2, 1) := by decide +kernel
theorem dX1_waysOfRankAtMost_91 : decode cX1_waysOfRankAtMost 91 = .ok (.laload, 1) := by decide +kernel
theorem dX1_waysOfRankAtMost_92 : decode cX1_waysOfRankAtMost 92 = .ok (.iload 4, 2) := by decide +kernel
theorem dX1_waysOfRankAtMost_94 : decode cX1_waysOfRankAtMost 94 = .ok (.i2l, 1) := by decide +kernel
theorem dX1_waysOfRankAtMost_95 : decode cX1_waysOfRankAtMost 95 = .ok (.lmul, 1) := by decide +kernel
theorem dX1_waysOfRankAtMost_96 : decode cX1_waysOfRankAtMost 96 = .ok (.lastore, 1) := by decide +kernel
theorem dX1_waysOfRankAtMost_97 : decode cX1_waysOfRankAtMost 97 = .ok (.iinc 5 1, 3) := by decide +kernel
theorem dX1_waysOfRankAtMost_100 : decode cX1_waysOfRankAtMost 100 = .ok (.goto (-74), 3) := by decide +kernel
theorem dX1_waysOfRankAtMost_103 : decode cX1_waysOfRankAtMost 103 = .ok (.lconst 0, 1) := by decide +kernel
theorem dX1_waysOfRankAtMost_104 : decode cX1_waysOfRankAtMost 104 = .ok (.lstore 5, 2) := by decide +kernel
theorem dX1_waysOfRankAtMost_106 : decode cX1_waysOfRankAtMost 106 = .ok (.iload_n 3, 1) := by decide +kernel
theorem dX1_waysOfRankAtMost_107 : decode cX1_waysOfRankAtMost 107 = .ok (.iload_n 2, 1) := by decide +kernel
theorem dX1_waysOfRankAtMost_108 : decode cX1_waysOfRankAtMost 108 = .ok (.invokestatic 47, 3) := by decide +kernel
theorem dX1_waysOfRankAtMost_111 : decode cX1_waysOfRankAtMost 111 = .ok (.istore 7, 2) := by decide +kernel
theorem dX1_waysOfRankAtMost_113 : decode cX1_waysOfRankAtMost 113 = .ok (.iload 7, 2) := by decide +kernel
theorem dX1_waysOfRankAtMost_115 : decode cX1_waysOfRankAtMost 115 = .ok (.iload_n 2, 1) := by decide +kernel
theorem dX1_waysOfRankAtMost_116 : decode cX1_waysOfRankAtMost 116 = .ok (.if_icmp .gt 28, 3) := by decide +kernel
theorem dX1_waysOfRankAtMost_119 : decode cX1_waysOfRankAtMost 119 = .ok (.iload 7, 2) := by decide +kernel
theorem dX1_waysOfRankAtMost_121 : decode cX1_waysOfRankAtMost 121 = .ok (.bipush 12, 2) := by decide +kernel
theorem dX1_waysOfRankAtMost_123 : decode cX1_waysOfRankAtMost 123 = .ok (.if_icmp .gt 21, 3) := by decide +kernel
theorem dX1_waysOfRankAtMost_126 : decode cX1_waysOfRankAtMost 126 = .ok (.lload 5, 2) := by decide +kernel
theorem dX1_waysOfRankAtMost_128 : decode cX1_waysOfRankAtMost 128 = .ok (.aload_n 0, 1) := by decide +kernel
theorem dX1_waysOfRankAtMost_129 : decode cX1_waysOfRankAtMost 129 = .ok (.getfield 15, 3) := by decide +kernel
theorem dX1_waysOfRankAtMost_132 : decode cX1_waysOfRankAtMost 132 = .ok (.iload 7, 2) := by decide +kernel
theorem dX1_waysOfRankAtMost_134 : decode cX1_waysOfRankAtMost 134 = .ok (.laload, 1) := by decide +kernel
theorem dX1_waysOfRankAtMost_135 : decode cX1_waysOfRankAtMost 135 = .ok (.ladd, 1) := by decide +kernel
theorem dX1_waysOfRankAtMost_136 : decode cX1_waysOfRankAtMost 136 = .ok (.lstore 5, 2) := by decide +kernel
theorem dX1_waysOfRankAtMost_138 : decode cX1_waysOfRankAtMost 138 = .ok (.iinc 7 1, 3) := by decide +kernel
theorem dX1_waysOfRankAtMost_141 : decode cX1_waysOfRankAtMost 141 = .ok (.goto (-28), 3) := by decide +kernel
theorem dX1_waysOfRankAtMost_144 : decode cX1_waysOfRankAtMost 144 = .ok (.lload 5, 2) := by decide +kernel
theorem dX1_waysOfRankAtMost_146 : decode cX1_waysOfRankAtMost 146 = .ok (.lreturn, 1) := by decide +kernel
theorem dX1_raised_0 : decode cX1_raised 0 = .ok (.lconst 1, 1) := by decide +kernel
theorem dX1_raised_1 : decode cX1_raised 1 = .ok (.lstore_n 2, 1) := by decide +kernel
theorem dX1_raised_2 : decode cX1_raised 2 = .ok (.iconst 0, 1) := by decide +kernel
theorem dX1_raised_3 : decode cX1_raised 3 = .ok (.istore 4, 2) := by decide +kernel
theorem dX1_raised_5 : decode cX1_raised 5 = .ok (.iload 4, 2) := by decide +kernel
theorem dX1_raised_7 : decode cX1_raised 7 = .ok (.iload_n 1, 1) := by decide +kernel
theorem dX1_raised_8 : decode cX1_raised 8 = .ok (.if_icmp .ge 17, 3) := by decide +kernel
theorem dX1_raised_11 : decode cX1_raised 11 = .ok (.lload_n 2, 1) := by decide +kernel
theorem dX1_raised_12 : decode cX1_raised 12 = .ok (.aload_n 0, 1) := by decide +kernel
theorem dX1_raised_13 : decode cX1_raised 13 = .ok (.getfield 22, 3) := by decide +kernel
theorem dX1_raised_16 : decode cX1_raised 16 = .ok (.i2l, 1) := by decide +kernel
theorem dX1_raised_17 : decode cX1_raised 17 = .ok (.lmul, 1) := by decide +kernel
theorem dX1_raised_18 : decode cX1_raised 18 = .ok (.lstore_n 2, 1) := by decide +kernel
theorem dX1_raised_19 : decode cX1_raised 19 = .ok (.iinc 4 1, 3) := by decide +kernel
theorem dX1_raised_22 : decode cX1_raised 22 = .ok (.goto (-17), 3) := by decide +kernel
theorem dX1_raised_25 : decode cX1_raised 25 = .ok (.lload_n 2, 1) := by decide +kernel
theorem dX1_raised_26 : decode cX1_raised 26 = .ok (.lreturn, 1) := by decide +kernel
theorem dX1_allWays_0 : decode cX1_allWays 0 = .ok (.aload_n 0, 1) := by decide +kernel
theorem dX1_allWays_1 : decode cX1_allWays 1 = .ok (.iconst 2, 1) := by decide +kernel
theorem dX1_allWays_2 : decode cX1_allWays 2 = .ok (.iload_n 1, 1) := by decide +kernel
theorem dX1_allWays_3 : decode cX1_allWays 3 = .ok (.imul, 1) := by decide +kernel
theorem dX1_allWays_4 : decode cX1_allWays 4 = .ok (.iconst 1, 1) := by decide +kernel
theorem dX1_allWays_5 : decode cX1_allWays 5 = .ok (.iadd, 1) := by decide +kernel
theorem dX1_allWays_6 : decode cX1_allWays 6 = .ok (.invokevirtual 37, 3) := by decide +kernel
theorem dX1_allWays_9 : decode cX1_allWays 9 = .ok (.lreturn, 1) := by decide +kernel
theorem dX1_alarmWays_0 : decode cX1_alarmWays 0 = .ok (.lconst 0, 1) := by decide +kernel
theorem dX1_alarmWays_1 : decode cX1_alarmWays 1 = .ok (.lstore_n 3, 1) := by decide +kernel
theorem dX1_alarmWays_2 : decode cX1_alarmWays 2 = .ok (.iconst 0, 1) := by decide +kernel
theorem dX1_alarmWays_3 : decode cX1_alarmWays 3 = .ok (.istore 5, 2) := by decide +kernel
theorem dX1_alarmWays_5 : decode cX1_alarmWays 5 = .ok (.iload 5, 2) := by decide +kernel
theorem dX1_alarmWays_7 : decode cX1_alarmWays 7 = .ok (.bipush 8, 2) := by decide +kernel
theorem dX1_alarmWays_9 : decode cX1_alarmWays 9 = .ok (.if_icmp .ge 55, 3) := by decide +kernel
theorem dX1_alarmWays_12 : decode cX1_alarmWays 12 = .ok (.iconst 0, 1) := by decide +kernel
theorem dX1_alarmWays_13 : decode cX1_alarmWays 13 = .ok (.istore 6, 2) := by decide +kernel
theorem dX1_alarmWays_15 : decode cX1_alarmWays 15 = .ok (.iload 6, 2) := by decide +kernel
theorem dX1_alarmWays_17 : decode cX1_alarmWays 17 = .ok (.bipush 8, 2) := by decide +kernel
theorem dX1_alarmWays_19 : decode cX1_alarmWays 19 = .ok (.if_icmp .ge 39, 3) := by decide +kernel
theorem dX1_alarmWays_22 : decode cX1_alarmWays 22 = .ok (.iload_n 1, 1) := by decide +kernel
theorem dX1_alarmWays_23 : decode cX1_alarmWays 23 = .ok (.iload 6, 2) := by decide +kernel
theorem dX1_alarmWays_25 : decode cX1_alarmWays 25 = .ok (.imul, 1) := by decide +kernel
theorem dX1_alarmWays_26 : decode cX1_alarmWays 26 = .ok (.iload_n 2, 1) := by decide +kernel
theorem dX1_alarmWays_27 : decode cX1_alarmWays 27 = .ok (.iload 5, 2) := by decide +kernel
theorem dX1_alarmWays_29 : decode cX1_alarmWays 29 = .ok (.imul, 1) := by decide +kernel
theorem dX1_alarmWays_30 : decode cX1_alarmWays 30 = .ok (.if_icmp .ge 28, 3) := by decide +kernel
theorem dX1_alarmWays_33 : decode cX1_alarmWays 33 = .ok (.lload_n 3, 1) := by decide +kernel
theorem dX1_alarmWays_34 : decode cX1_alarmWays 34 = .ok (.aload_n 0, 1) := by decide +kernel
theorem dX1_alarmWays_35 : decode cX1_alarmWays 35 = .ok (.getfield 9, 3) := by decide +kernel
theorem dX1_alarmWays_38 : decode cX1_alarmWays 38 = .ok (.iload 5, 2) := by decide +kernel
theorem dX1_alarmWays_40 : decode cX1_alarmWays 40 = .ok (.iaload, 1) := by decide +kernel
theorem dX1_alarmWays_41 : decode cX1_alarmWays 41 = .ok (.i2l, 1) := by decide +kernel
theorem dX1_alarmWays_42 : decode cX1_alarmWays 42 = .ok (.aload_n 0, 1) := by decide +kernel
theorem dX1_alarmWays_43 : decode cX1_alarmWays 43 = .ok (.getfield 19, 3) := by decide +kernel
theorem dX1_alarmWays_46 : decode cX1_alarmWays 46 = .ok (.iload 6, 2) := by decide +kernel
theorem dX1_alarmWays_48 : decode cX1_alarmWays 48 = .ok (.laload, 1) := by decide +kernel
theorem dX1_alarmWays_49 : decode cX1_alarmWays 49 = .ok (.lmul, 1) := by decide +kernel
theorem dX1_alarmWays_50 : decode cX1_alarmWays 50 = .ok (.ladd, 1) := by decide +kernel
theorem dX1_alarmWays_51 : decode cX1_alarmWays 51 = .ok (.lstore_n 3, 1) := by decide +kernel
theorem dX1_alarmWays_52 : decode cX1_alarmWays 52 = .ok (.iinc 6 1, 3) := by decide +kernel
theorem dX1_alarmWays_55 : decode cX1_alarmWays 55 = .ok (.goto (-40), 3) := by decide +kernel
theorem dX1_alarmWays_58 : decode cX1_alarmWays 58 = .ok (.iinc 5 1, 3) := by decide +kernel
theorem dX1_alarmWays_61 : decode cX1_alarmWays 61 = .ok (.goto (-56), 3) := by decide +kernel
theorem dX1_alarmWays_64 : decode cX1_alarmWays 64 = .ok (.lload_n 3, 1) := by decide +kernel
theorem dX1_alarmWays_65 : decode cX1_alarmWays 65 = .ok (.lreturn, 1) := by decide +kernel
theorem dX2_init_0 : decode cX2_init 0 = .ok (.aload_n 0, 1) := by decide +kernel
theorem dX2_init_1 : decode cX2_init 1 = .ok (.invokespecial 3, 3) := by decide +kernel
theorem dX2_init_4 : decode cX2_init 4 = .ok (.aload_n 0, 1) := by decide +kernel
theorem dX2_init_5 : decode cX2_init 5 = .ok (.bipush 6, 2) := by decide +kernel
theorem dX2_init_7 : decode cX2_init 7 = .ok (.newarray .int, 2) := by decide +kernel
theorem dX2_init_9 : decode cX2_init 9 = .ok (.putfield 9, 3) := by decide +kernel
theorem dX2_init_12 : decode cX2_init 12 = .ok (.aload_n 0, 1) := by decide +kernel
theorem dX2_init_13 : decode cX2_init 13 = .ok (.bipush 6, 2) := by decide +kernel
theorem dX2_init_15 : decode cX2_init 15 = .ok (.newarray .int, 2) := by decide +kernel
theorem dX2_init_17 : decode cX2_init 17 = .ok (.putfield 15, 3) := by decide +kernel
theorem dX2_init_20 : decode cX2_init 20 = .ok (.aload_n 0, 1) := by decide +kernel
theorem dX2_init_21 : decode cX2_init 21 = .ok (.bipush 6, 2) := by decide +kernel
theorem dX2_init_23 : decode cX2_init 23 = .ok (.newarray .int, 2) := by decide +kernel
theorem dX2_init_25 : decode cX2_init 25 = .ok (.putfield 18, 3) := by decide +kernel
theorem dX2_init_28 : decode cX2_init 28 = .ok (.return_, 1) := by decide +kernel
theorem dX2_keep_0 : decode cX2_keep 0 = .ok (.aload_n 0, 1) := by decide +kernel
theorem dX2_keep_1 : decode cX2_keep 1 = .ok (.getfield 21, 3) := by decide +kernel
theorem dX2_keep_4 : decode cX2_keep 4 = .ok (.bipush 6, 2) := by decide +kernel
theorem dX2_keep_6 : decode cX2_keep 6 = .ok (.if_icmp .lt 7, 3) := by decide +kernel
theorem dX2_keep_9 : decode cX2_keep 9 = .ok (.aload_n 0, 1) := by decide +kernel
theorem dX2_keep_10 : decode cX2_keep 10 = .ok (.invokevirtual 25, 3) := by decide +kernel
theorem dX2_keep_13 : decode cX2_keep 13 = .ok (.aload_n 0, 1) := by decide +kernel
theorem dX2_keep_14 : decode cX2_keep 14 = .ok (.getfield 9, 3) := by decide +kernel
theorem dX2_keep_17 : decode cX2_keep 17 = .ok (.aload_n 0, 1) := by decide +kernel
theorem dX2_keep_18 : decode cX2_keep 18 = .ok (.getfield 21, 3) := by decide +kernel
theorem dX2_keep_21 : decode cX2_keep 21 = .ok (.iload_n 1, 1) := by decide +kernel
theorem dX2_keep_22 : decode cX2_keep 22 = .ok (.iastore, 1) := by decide +kernel
theorem dX2_keep_23 : decode cX2_keep 23 = .ok (.aload_n 0, 1) := by decide +kernel
theorem dX2_keep_24 : decode cX2_keep 24 = .ok (.getfield 15, 3) := by decide +kernel
theorem dX2_keep_27 : decode cX2_keep 27 = .ok (.aload_n 0, 1) := by decide +kernel
theorem dX2_keep_28 : decode cX2_keep 28 = .ok (.getfield 21, 3) := by decide +kernel
theorem dX2_keep_31 : decode cX2_keep 31 = .ok (.iload_n 2, 1) := by decide +kernel
theorem dX2_keep_32 : decode cX2_keep 32 = .ok (.iastore, 1) := by decide +kernel
theorem dX2_keep_33 : decode cX2_keep 33 = .ok (.aload_n 0, 1) := by decide +kernel
theorem dX2_keep_34 : decode cX2_keep 34 = .ok (.getfield 18, 3) := by decide +kernel
theorem dX2_keep_37 : decode cX2_keep 37 = .ok (.aload_n 0, 1) := by decide +kernel
theorem dX2_keep_38 : decode cX2_keep 38 = .ok (.getfield 21, 3) := by decide +kernel
theorem dX2_keep_41 : decode cX2_keep 41 = .ok (.iload_n 3, 1) := by decide +kernel
theorem dX2_keep_42 : decode cX2_keep 42 = .ok (.iastore, 1) := by decide +kernel
theorem dX2_keep_43 : decode cX2_keep 43 = .ok (.aload_n 0, 1) := by decide +kernel
theorem dX2_keep_44 : decode cX2_keep 44 = .ok (.dup, 1) := by decide +kernel
theorem dX2_keep_45 : decode cX2_keep 45 = .ok (.getfield 21, 3) := by decide +kernel
theorem dX2_keep_48 : decode cX2_keep 48 = .ok (.iconst 1, 1) := by decide +kernel
theorem dX2_keep_49 : decode cX2_keep 49 = .ok (.iadd, 1) := by decide +kernel
theorem dX2_keep_50 : decode cX2_keep 50 = .ok (.putfield 21, 3) := by decide +kernel
theorem dX2_keep_53 : decode cX2_keep 53 = .ok (.return_, 1) := by decide +kernel
theorem dX2_forgetOldest_0 : decode cX2_forgetOldest 0 = .ok (.aload_n 0, 1) := by decide +kernel
theorem dX2_forgetOldest_1 : decode cX2_forgetOldest 1 = .ok (.iconst 5, 1) := by decide +kernel
theorem dX2_forgetOldest_2 : decode cX2_forgetOldest 2 = .ok (.putfield 21, 3) := by decide +kernel
theorem dX2_forgetOldest_5 : decode cX2_forgetOldest 5 = .ok (.aload_n 0, 1) := by decide +kernel
theorem dX2_forgetOldest_6 : decode cX2_forgetOldest 6 = .ok (.getfield 9, 3) := by decide +kernel
theorem dX2_forgetOldest_9 : decode cX2_forgetOldest 9 = .ok (.iconst 1, 1) := by decide +kernel
theorem dX2_forgetOldest_10 : decode cX2_forgetOldest 10 = .ok (.aload_n 0, 1) := by decide +kernel
theorem dX2_forgetOldest_11 : decode cX2_forgetOldest 11 = .ok (.getfield 9, 3) := by decide +kernel
theorem dX2_forgetOldest_14 : decode cX2_forgetOldest 14 = .ok (.iconst 0, 1) := by decide +kernel
theorem dX2_forgetOldest_15 : decode cX2_forgetOldest 15 = .ok (.aload_n 0, 1) := by decide +kernel
theorem dX2_forgetOldest_16 : decode cX2_forgetOldest 16 = .ok (.getfield 21, 3) := by decide +kernel
theorem dX2_forgetOldest_19 : decode cX2_forgetOldest 19 = .ok (.invokestatic 28, 3) := by decide +kernel
theorem dX2_forgetOldest_22 : decode cX2_forgetOldest 22 = .ok (.aload_n 0, 1) := by decide +kernel
theorem dX2_forgetOldest_23 : decode cX2_forgetOldest 23 = .ok (.getfield 15, 3) := by decide +kernel
theorem dX2_forgetOldest_26 : decode cX2_forgetOldest 26 = .ok (.iconst 1, 1) := by decide +kernel
theorem dX2_forgetOldest_27 : decode cX2_forgetOldest 27 = .ok (.aload_n 0, 1) := by decide +kernel
theorem dX2_forgetOldest_28 : decode cX2_forgetOldest 28 = .ok (.getfield 15, 3) := by decide +kernel
theorem dX2_forgetOldest_31 : decode cX2_forgetOldest 31 = .ok (.iconst 0, 1) := by decide +kernel
theorem dX2_forgetOldest_32 : decode cX2_forgetOldest 32 = .ok (.aload_n 0, 1) := by decide +kernel
theorem dX2_forgetOldest_33 : decode cX2_forgetOldest 33 = .ok (.getfield 21, 3) := by decide +kernel
theorem dX2_forgetOldest_36 : decode cX2_forgetOldest 36 = .ok (.invokestatic 28, 3) := by decide +kernel
theorem dX2_forgetOldest_39 : decode cX2_forgetOldest 39 = .ok (.aload_n 0, 1) := by decide +kernel
theorem dX2_forgetOldest_40 : decode cX2_forgetOldest 40 = .ok (.getfield 18, 3) := by decide +kernel
theorem dX2_forgetOldest_43 : decode cX2_forgetOldest 43 = .ok (.iconst 1, 1) := by decide +kernel
theorem dX2_forgetOldest_44 : decode cX2_forgetOldest 44 = .ok (.aload_n 0, 1) := by decide +kernel
theorem dX2_forgetOldest_45 : decode cX2_forgetOldest 45 = .ok (.getfield 18, 3) := by decide +kernel
theorem dX2_forgetOldest_48 : decode cX2_forgetOldest 48 = .ok (.iconst 0, 1) := by decide +kernel
theorem dX2_forgetOldest_49 : decode cX2_forgetOldest 49 = .ok (.aload_n 0, 1) := by decide +kernel
theorem dX2_forgetOldest_50 : decode cX2_forgetOldest 50 = .ok (.getfield 21, 3) := by decide +kernel
theorem dX2_forgetOldest_53 : decode cX2_forgetOldest 53 = .ok (.invokestatic 28, 3) := by decide +kernel
theorem dX2_forgetOldest_56 : decode cX2_forgetOldest 56 = .ok (.return_, 1) := by decide +kernel
theorem dX3_init_0 : decode cX3_init 0 = .ok (.aload_n 0, 1) := by decide +kernel
theorem dX3_init_1 : decode cX3_init 1 = .ok (.invokespecial 3, 3) := by decide +kernel
theorem dX3_init_4 : decode cX3_init 4 = .ok (.aload_n 0, 1) := by decide +kernel
theorem dX3_init_5 : decode cX3_init 5 = .ok (.bipush 48, 2) := by decide +kernel
theorem dX3_init_7 : decode cX3_init 7 = .ok (.newarray .int, 2) := by decide +kernel
theorem dX3_init_9 : decode cX3_init 9 = .ok (.putfield 9, 3) := by decide +kernel
theorem dX3_init_12 : decode cX3_init 12 = .ok (.aload_n 0, 1) := by decide +kernel
theorem dX3_init_13 : decode cX3_init 13 = .ok (.bipush 48, 2) := by decide +kernel
theorem dX3_init_15 : decode cX3_init 15 = .ok (.newarray .int, 2) := by decide +kernel
theorem dX3_init_17 : decode cX3_init 17 = .ok (.putfield 15, 3) := by decide +kernel
theorem dX3_init_20 : decode cX3_init 20 = .ok (.aload_n 0, 1) := by decide +kernel
theorem dX3_init_21 : decode cX3_init 21 = .ok (.getstatic 18, 3) := by decide +kernel
theorem dX3_init_24 : decode cX3_init 24 = .ok (.arraylength, 1) := by decide +kernel
theorem dX3_init_25 : decode cX3_init 25 = .ok (.newarray .int, 2) := by decide +kernel
theorem dX3_init_27 : decode cX3_init 27 = .ok (.putfield 21, 3) := by decide +kernel
theorem dX3_init_30 : decode cX3_init 30 = .ok (.aload_n 0, 1) := by decide +kernel
theorem dX3_init_31 : decode cX3_init 31 = .ok (.bipush 12, 2) := by decide +kernel
theorem dX3_init_33 : decode cX3_init 33 = .ok (.newarray .int, 2) := by decide +kernel
theorem dX3_init_35 : decode cX3_init 35 = .ok (.putfield 24, 3) := by decide +kernel
theorem dX3_init_38 : decode cX3_init 38 = .ok (.return_, 1) := by decide +kernel
theorem dX3_has_0 : decode cX3_has 0 = .ok (.iload_n 1, 1) := by decide +kernel
theorem dX3_has_1 : decode cX3_has 1 = .ok (.ifCond .lt 21, 3) := by decide +kernel
theorem dX3_has_4 : decode cX3_has 4 = .ok (.iload_n 1, 1) := by decide +kernel
theorem dX3_has_5 : decode cX3_has 5 = .ok (.aload_n 0, 1) := by decide +kernel
theorem dX3_has_6 : decode cX3_has 6 = .ok (.getfield 27, 3) := by decide +kernel
theorem dX3_has_9 : decode cX3_has 9 = .ok (.if_icmp .ge 13, 3) := by decide +kernel
theorem dX3_has_12 : decode cX3_has 12 = .ok (.iload_n 1, 1) := by decide +kernel
theorem dX3_has_13 : decode cX3_has 13 = .ok (.bipush 48, 2) := by decide +kernel
theorem dX3_has_15 : decode cX3_has 15 = .ok (.if_icmp .ge 7, 3) := by decide +kernel
theorem dX3_has_18 : decode cX3_has 18 = .ok (.iconst 1, 1) := by decide +kernel
theorem dX3_has_19 : decode cX3_has 19 = .ok (.goto 4, 3) := by decide +kernel
theorem dX3_has_22 : decode cX3_has 22 = .ok (.iconst 0, 1) := by decide +kernel
theorem dX3_has_23 : decode cX3_has 23 = .ok (.ireturn, 1) := by decide +kernel
theorem dX3_take_0 : decode cX3_take 0 = .ok (.aload_n 1, 1) := by decide +kernel
theorem dX3_take_1 : decode cX3_take 1 = .ok (.getfield 31, 3) := by decide +kernel
theorem dX3_take_4 : decode cX3_take 4 = .ok (.iconst 0, 1) := by decide +kernel
theorem dX3_take_5 : decode cX3_take 5 = .ok (.aload_n 0, 1) := by decide +kernel
theorem dX3_take_6 : decode cX3_take 6 = .ok (.getfield 9, 3) := by decide +kernel
theorem dX3_take_9 : decode cX3_take 9 = .ok (.iconst 0, 1) := by decide +kernel
theorem dX3_take_10 : decode cX3_take 10 = .ok (.bipush 48, 2) := by decide +kernel
theorem dX3_take_12 : decode cX3_take 12 = .ok (.invokestatic 34, 3) := by decide +kernel
theorem dX3_take_15 : decode cX3_take 15 = .ok (.aload_n 1, 1) := by decide +kernel
theorem dX3_take_16 : decode cX3_take 16 = .ok (.getfield 40, 3) := by decide +kernel
theorem dX3_take_19 : decode cX3_take 19 = .ok (.iconst 0, 1) := by decide +kernel
theorem dX3_take_20 : decode cX3_take 20 = .ok (.aload_n 0, 1) := by decide +kernel
theorem dX3_take_21 : decode cX3_take 21 = .ok (.getfield 21, 3) := by decide +kernel
theorem dX3_take_24 : decode cX3_take 24 = .ok (.iconst 0, 1) := by decide +kernel
theorem dX3_take_25 : decode cX3_take 25 = .ok (.aload_n 0, 1) := by decide +kernel
theorem dX3_take_26 : decode cX3_take 26 = .ok (.getfield 21, 3) := by decide +kernel
theorem dX3_take_29 : decode cX3_take 29 = .ok (.arraylength, 1) := by decide +kernel
theorem dX3_take_30 : decode cX3_take 30 = .ok (.invokestatic 34, 3) := by decide +kernel
theorem dX3_take_33 : decode cX3_take 33 = .ok (.aload_n 0, 1) := by decide +kernel
theorem dX3_take_34 : decode cX3_take 34 = .ok (.getfield 15, 3) := by decide +kernel
theorem dX3_take_37 : decode cX3_take 37 = .ok (.iconst 0, 1) := by decide +kernel
theorem dX3_take_38 : decode cX3_take 38 = .ok (.invokestatic 41, 3) := by decide +kernel
theorem dX3_take_41 : decode cX3_take 41 = .ok (.aload_n 0, 1) := by decide +kernel
theorem dX3_take_42 : decode cX3_take 42 = .ok (.aload_n 1, 1) := by decide +kernel
theorem dX3_take_43 : decode cX3_take 43 = .ok (.getfield 47, 3) := by decide +kernel
theorem dX3_take_46 : decode cX3_take 46 = .ok (.putfield 27, 3) := by decide +kernel
theorem dX3_take_49 : decode cX3_take 49 = .ok (.aload_n 0, 1) := by decide +kernel
theorem dX3_take_50 : decode cX3_take 50 = .ok (.aload_n 1, 1) := by decide +kernel
theorem dX3_take_51 : decode cX3_take 51 = .ok (.getfield 48, 3) := by decide +kernel
theorem dX3_take_54 : decode cX3_take 54 = .ok (.putfield 51, 3) := by decide +kernel
theorem dX3_take_57 : decode cX3_take 57 = .ok (.aload_n 0, 1) := by decide +kernel
theorem dX3_take_58 : decode cX3_take 58 = .ok (.iconst 1, 1) := by decide +kernel
theorem dX3_take_59 : decode cX3_take 59 = .ok (.putfield 52, 3) := by decide +kernel
theorem dX3_take_62 : decode cX3_take 62 = .ok (.return_, 1) := by decide +kernel
theorem dX3_setPower_0 : decode cX3_setPower 0 = .ok (.aload_n 0, 1) := by decide +kernel
theorem dX3_setPower_1 : decode cX3_setPower 1 = .ok (.iload_n 1, 1) := by decide +kernel
theorem dX3_setPower_2 : decode cX3_setPower 2 = .ok (.invokevirtual 56, 3) := by decide +kernel
theorem dX3_setPower_5 : decode cX3_setPower 5 = .ok (.ifCond .eq 15, 3) := by decide +kernel
theorem dX3_setPower_8 : decode cX3_setPower 8 = .ok (.aload_n 0, 1) := by decide +kernel
theorem dX3_setPower_9 : decode cX3_setPower 9 = .ok (.getfield 9, 3) := by decide +kernel
theorem dX3_setPower_12 : decode cX3_setPower 12 = .ok (.iload_n 1, 1) := by decide +kernel
theorem dX3_setPower_13 : decode cX3_setPower 13 = .ok (.iload_n 2, 1) := by decide +kernel
theorem dX3_setPower_14 : decode cX3_setPower 14 = .ok (.iastore, 1) := by decide +kernel
theorem dX3_setPower_15 : decode cX3_setPower 15 = .ok (.aload_n 0, 1) := by decide +kernel
theorem dX3_setPower_16 : decode cX3_setPower 16 = .ok (.iconst 1, 1) := by decide +kernel
theorem dX3_setPower_17 : decode cX3_setPower 17 = .ok (.putfield 52, 3) := by decide +kernel
theorem dX3_setPower_20 : decode cX3_setPower 20 = .ok (.return_, 1) := by decide +kernel
theorem dX3_setLeft_0 : decode cX3_setLeft 0 = .ok (.aload_n 0, 1) := by decide +kernel
theorem dX3_setLeft_1 : decode cX3_setLeft 1 = .ok (.iload_n 1, 1) := by decide +kernel
theorem dX3_setLeft_2 : decode cX3_setLeft 2 = .ok (.invokevirtual 56, 3) := by decide +kernel
theorem dX3_setLeft_5 : decode cX3_setLeft 5 = .ok (.ifCond .eq 15, 3) := by decide +kernel
theorem dX3_setLeft_8 : decode cX3_setLeft 8 = .ok (.aload_n 0, 1) := by decide +kernel
theorem dX3_setLeft_9 : decode cX3_setLeft 9 = .ok (.getfield 15, 3) := by decide +kernel
theorem dX3_setLeft_12 : decode cX3_setLeft 12 = .ok (.iload_n 1, 1) := by decide +kernel
theorem dX3_setLeft_13 : decode cX3_setLeft 13 = .ok (.iload_n 2, 1) := by decide +kernel
theorem dX3_setLeft_14 : decode cX3_setLeft 14 = .ok (.iastore, 1) := by decide +kernel
theorem dX3_setLeft_15 : decode cX3_setLeft 15 = .ok (.aload_n 0, 1) := by decide +kernel
theorem dX3_setLeft_16 : decode cX3_setLeft 16 = .ok (.iconst 1, 1) := by decide +kernel
theorem dX3_setLeft_17 : decode cX3_setLeft 17 = .ok (.putfield 52, 3) := by decide +kernel
theorem dX3_setLeft_20 : decode cX3_setLeft 20 = .ok (.return_, 1) := by decide +kernel
theorem dX3_setLook_0 : decode cX3_setLook 0 = .ok (.iload_n 1, 1) := by decide +kernel
theorem dX3_setLook_1 : decode cX3_setLook 1 = .ok (.iload_n 2, 1) := by decide +kernel
theorem dX3_setLook_2 : decode cX3_setLook 2 = .ok (.invokestatic 60, 3) := by decide +kernel
theorem dX3_setLook_5 : decode cX3_setLook 5 = .ok (.ifCond .eq 15, 3) := by decide +kernel
theorem dX3_setLook_8 : decode cX3_setLook 8 = .ok (.aload_n 0, 1) := by decide +kernel
theorem dX3_setLook_9 : decode cX3_setLook 9 = .ok (.getfield 21, 3) := by decide +kernel
theorem dX3_setLook_12 : decode cX3_setLook 12 = .ok (.iload_n 1, 1) := by decide +kernel
theorem dX3_setLook_13 : decode cX3_setLook 13 = .ok (.iload_n 2, 1) := by decide +kernel
theorem dX3_setLook_14 : decode cX3_setLook 14 = .ok (.iastore, 1) := by decide +kernel
theorem dX3_setLook_15 : decode cX3_setLook 15 = .ok (.aload_n 0, 1) := by decide +kernel
theorem dX3_setLook_16 : decode cX3_setLook 16 = .ok (.iconst 1, 1) := by decide +kernel
theorem dX3_setLook_17 : decode cX3_setLook 17 = .ok (.putfield 52, 3) := by decide +kernel
theorem dX3_setLook_20 : decode cX3_setLook 20 = .ok (.return_, 1) := by decide +kernel
theorem dX3_setMode_0 : decode cX3_setMode 0 = .ok (.aload_n 0, 1) := by decide +kernel
theorem dX3_setMode_1 : decode cX3_setMode 1 = .ok (.iload_n 1, 1) := by decide +kernel
theorem dX3_setMode_2 : decode cX3_setMode 2 = .ok (.putfield 51, 3) := by decide +kernel
theorem dX3_setMode_5 : decode cX3_setMode 5 = .ok (.aload_n 0, 1) := by decide +kernel
theorem dX3_setMode_6 : decode cX3_setMode 6 = .ok (.iconst 1, 1) := by decide +kernel
theorem dX3_setMode_7 : decode cX3_setMode 7 = .ok (.putfield 52, 3) := by decide +kernel
theorem dX3_setMode_10 : decode cX3_setMode 10 = .ok (.return_, 1) := by decide +kernel
theorem dX3_slideOn_0 : decode cX3_slideOn 0 = .ok (.aload_n 0, 1) := by decide +kernel
theorem dX3_slideOn_1 : decode cX3_slideOn 1 = .ok (.getfield 27, 3) := by decide +kernel
theorem dX3_slideOn_4 : decode cX3_slideOn 4 = .ok (.iconst 1, 1) := by decide +kernel
theorem dX3_slideOn_5 : decode cX3_slideOn 5 = .ok (.isub, 1) := by decide +kernel
theorem dX3_slideOn_6 : decode cX3_slideOn 6 = .ok (.istore_n 2, 1) := by decide +kernel
theorem dX3_slideOn_7 : decode cX3_slideOn 7 = .ok (.aload_n 0, 1) := by decide +kernel
theorem dX3_slideOn_8 : decode cX3_slideOn 8 = .ok (.iload_n 2, 1) := by decide +kernel
theorem dX3_slideOn_9 : decode cX3_slideOn 9 = .ok (.invokevirtual 56, 3) := by decide +kernel
theorem dX3_slideOn_12 : decode cX3_slideOn 12 = .ok (.ifCond .eq 50, 3) := by decide +kernel
theorem dX3_slideOn_15 : decode cX3_slideOn 15 = .ok (.aload_n 0, 1) := by decide +kernel
theorem dX3_slideOn_16 : decode cX3_slideOn 16 = .ok (.getfield 9, 3) := by decide +kernel
theorem dX3_slideOn_19 : decode cX3_slideOn 19 = .ok (.iconst 1, 1) := by decide +kernel
theorem dX3_slideOn_20 : decode cX3_slideOn 20 = .ok (.aload_n 0, 1) := by decide +kernel
theorem dX3_slideOn_21 : decode cX3_slideOn 21 = .ok (.getfield 9, 3) := by decide +kernel
theorem dX3_slideOn_24 : decode cX3_slideOn 24 = .ok (.iconst 0, 1) := by decide +kernel
theorem dX3_slideOn_25 : decode cX3_slideOn 25 = .ok (.iload_n 2, 1) := by decide +kernel
theorem dX3_slideOn_26 : decode cX3_slideOn 26 = .ok (.invokestatic 34, 3) := by decide +kernel
theorem dX3_slideOn_29 : decode cX3_slideOn 29 = .ok (.aload_n 0, 1) := by decide +kernel
theorem dX3_slideOn_30 : decode cX3_slideOn 30 = .ok (.getfield 15, 3) := by decide +kernel
theorem dX3_slideOn_33 : decode cX3_slideOn 33 = .ok (.iconst 1, 1) := by decide +kernel
theorem dX3_slideOn_34 : decode cX3_slideOn 34 = .ok (.aload_n 0, 1) := by decide +kernel
theorem dX3_slideOn_35 : decode cX3_slideOn 35 = .ok (.getfield 15, 3) := by decide +kernel
theorem dX3_slideOn_38 : decode cX3_slideOn 38 = .ok (.iconst 0, 1) := by decide +kernel
theorem dX3_slideOn_39 : decode cX3_slideOn 39 = .ok (.iload_n 2, 1) := by decide +kernel
theorem dX3_slideOn_40 : decode cX3_slideOn 40 = .ok (.invokestatic 34, 3) := by decide +kernel
theorem dX3_slideOn_43 : decode cX3_slideOn 43 = .ok (.aload_n 0, 1) := by decide +kernel
theorem dX3_slideOn_44 : decode cX3_slideOn 44 = .ok (.getfield 9, 3) := by decide +kernel
theorem dX3_slideOn_47 : decode cX3_slideOn 47 = .ok (.iload_n 2, 1) := by decide +kernel
theorem dX3_slideOn_48 : decode cX3_slideOn 48 = .ok (.iload_n 1, 1) := by decide +kernel
theorem dX3_slideOn_49 : decode cX3_slideOn 49 = .ok (.iastore, 1) := by decide +kernel
theorem dX3_slideOn_50 : decode cX3_slideOn 50 = .ok (.aload_n 0, 1) := by decide +kernel
theorem dX3_slideOn_51 : decode cX3_slideOn 51 = .ok (.getfield 15, 3) := by decide +kernel
theorem dX3_slideOn_54 : decode cX3_slideOn 54 = .ok (.iload_n 2, 1) := by decide +kernel
theorem dX3_slideOn_55 : decode cX3_slideOn 55 = .ok (.iconst 0, 1) := by decide +kernel
theorem dX3_slideOn_56 : decode cX3_slideOn 56 = .ok (.iastore, 1) := by decide +kernel
theorem dX3_slideOn_57 : decode cX3_slideOn 57 = .ok (.aload_n 0, 1) := by decide +kernel
theorem dX3_slideOn_58 : decode cX3_slideOn 58 = .ok (.iconst 1, 1) := by decide +kernel
theorem dX3_slideOn_59 : decode cX3_slideOn 59 = .ok (.putfield 52, 3) := by decide +kernel
theorem dX3_slideOn_62 : decode cX3_slideOn 62 = .ok (.return_, 1) := by decide +kernel
theorem dX3_slideBack_0 : decode cX3_slideBack 0 = .ok (.aload_n 0, 1) := by decide +kernel
theorem dX3_slideBack_1 : decode cX3_slideBack 1 = .ok (.getfield 27, 3) := by decide +kernel
theorem dX3_slideBack_4 : decode cX3_slideBack 4 = .ok (.iconst 1, 1) := by decide +kernel
theorem dX3_slideBack_5 : decode cX3_slideBack 5 = .ok (.isub, 1) := by decide +kernel
theorem dX3_slideBack_6 : decode cX3_slideBack 6 = .ok (.istore_n 3, 1) := by decide +kernel
theorem dX3_slideBack_7 : decode cX3_slideBack 7 = .ok (.aload_n 0, 1) := by decide +kernel
theorem dX3_slideBack_8 : decode cX3_slideBack 8 = .ok (.iload_n 3, 1) := by decide +kernel
theorem dX3_slideBack_9 : decode cX3_slideBack 9 = .ok (.invokevirtual 56, 3) := by decide +kernel
theorem dX3_slideBack_12 : decode cX3_slideBack 12 = .ok (.ifCond .eq 50, 3) := by decide +kernel
theorem dX3_slideBack_15 : decode cX3_slideBack 15 = .ok (.aload_n 0, 1) := by decide +kernel
theorem dX3_slideBack_16 : decode cX3_slideBack 16 = .ok (.getfield 9, 3) := by decide +kernel
theorem dX3_slideBack_19 : decode cX3_slideBack 19 = .ok (.iconst 0, 1) := by decide +kernel
theorem dX3_slideBack_20 : decode cX3_slideBack 20 = .ok (.aload_n 0, 1) := by decide +kernel
theorem dX3_slideBack_21 : decode cX3_slideBack 21 = .ok (.getfield 9, 3) := by decide +kernel
theorem dX3_slideBack_24 : decode cX3_slideBack 24 = .ok (.iconst 1, 1) := by decide +kernel
theorem dX3_slideBack_25 : decode cX3_slideBack 25 = .ok (.iload_n 3, 1) := by decide +kernel
theorem dX3_slideBack_26 : decode cX3_slideBack 26 = .ok (.invokestatic 34, 3) := by decide +kernel
theorem dX3_slideBack_29 : decode cX3_slideBack 29 = .ok (.aload_n 0, 1) := by decide +kernel
theorem dX3_slideBack_30 : decode cX3_slideBack 30 = .ok (.getfield 15, 3) := by decide +kernel
theorem dX3_slideBack_33 : decode cX3_slideBack 33 = .ok (.iconst 0, 1) := by decide +kernel
theorem dX3_slideBack_34 : decode cX3_slideBack 34 = .ok (.aload_n 0, 1) := by decide +kernel
theorem dX3_slideBack_35 : decode cX3_slideBack 35 = .ok (.getfield 15, 3) := by decide +kernel
theorem dX3_slideBack_38 : decode cX3_slideBack 38 = .ok (.iconst 1, 1) := by decide +kernel
theorem dX3_slideBack_39 : decode cX3_slideBack 39 = .ok (.iload_n 3, 1) := by decide +kernel
theorem dX3_slideBack_40 : decode cX3_slideBack 40 = .ok (.invokestatic 34, 3) := by decide +kernel
theorem dX3_slideBack_43 : decode cX3_slideBack 43 = .ok (.aload_n 0, 1) := by decide +kernel
theorem dX3_slideBack_44 : decode cX3_slideBack 44 = .ok (.getfield 9, 3) := by decide +kernel
theorem dX3_slideBack_47 : decode cX3_slideBack 47 = .ok (.iconst 0, 1) := by decide +kernel
theorem dX3_slideBack_48 : decode cX3_slideBack 48 = .ok (.iload_n 1, 1) := by decide +kernel
theorem dX3_slideBack_49 : decode cX3_slideBack 49 = .ok (.iastore, 1) := by decide +kernel
theorem dX3_slideBack_50 : decode cX3_slideBack 50 = .ok (.aload_n 0, 1) := by decide +kernel
theorem dX3_slideBack_51 : decode cX3_slideBack 51 = .ok (.getfield 15, 3) := by decide +kernel
theorem dX3_slideBack_54 : decode cX3_slideBack 54 = .ok (.iconst 0, 1) := by decide +kernel
theorem dX3_slideBack_55 : decode cX3_slideBack 55 = .ok (.iload_n 2, 1) := by decide +kernel
theorem dX3_slideBack_56 : decode cX3_slideBack 56 = .ok (.iastore, 1) := by decide +kernel
theorem dX3_slideBack_57 : decode cX3_slideBack 57 = .ok (.aload_n 0, 1) := by decide +kernel
theorem dX3_slideBack_58 : decode cX3_slideBack 58 = .ok (.iconst 1, 1) := by decide +kernel
theorem dX3_slideBack_59 : decode cX3_slideBack 59 = .ok (.putfield 52, 3) := by decide +kernel
theorem dX3_slideBack_62 : decode cX3_slideBack 62 = .ok (.return_, 1) := by decide +kernel
theorem dX3_takeBack_0 : decode cX3_takeBack 0 = .ok (.iload_n 1, 1) := by decide +kernel
theorem dX3_takeBack_1 : decode cX3_takeBack 1 = .ok (.tableswitch 66 0 3 #[31, 40, 49, 58], 31) := by decide +kernel
theorem dX3_takeBack_32 : decode cX3_takeBack 32 = .ok (.aload_n 0, 1) := by decide +kernel
theorem dX3_takeBack_33 : decode cX3_takeBack 33 = .ok (.iload_n 2, 1) := by decide +kernel
theorem dX3_takeBack_34 : decode cX3_takeBack 34 = .ok (.iload_n 3, 1) := by decide +kernel
theorem dX3_takeBack_35 : decode cX3_takeBack 35 = .ok (.invokevirtual 64, 3) := by decide +kernel
theorem dX3_takeBack_38 : decode cX3_takeBack 38 = .ok (.goto 35, 3) := by decide +kernel
theorem dX3_takeBack_41 : decode cX3_takeBack 41 = .ok (.aload_n 0, 1) := by decide +kernel
theorem dX3_takeBack_42 : decode cX3_takeBack 42 = .ok (.iload_n 2, 1) := by decide +kernel
theorem dX3_takeBack_43 : decode cX3_takeBack 43 = .ok (.iload_n 3, 1) := by decide +kernel
theorem dX3_takeBack_44 : decode cX3_takeBack 44 = .ok (.invokevirtual 68, 3) := by decide +kernel
theorem dX3_takeBack_47 : decode cX3_takeBack 47 = .ok (.goto 26, 3) := by decide +kernel
theorem dX3_takeBack_50 : decode cX3_takeBack 50 = .ok (.aload_n 0, 1) := by decide +kernel
theorem dX3_takeBack_51 : decode cX3_takeBack 51 = .ok (.iload_n 2, 1) := by decide +kernel
theorem dX3_takeBack_52 : decode cX3_takeBack 52 = .ok (.iload_n 3, 1) := by decide +kernel
theorem dX3_takeBack_53 : decode cX3_takeBack 53 = .ok (.invokevirtual 71, 3) := by decide +kernel
theorem dX3_takeBack_56 : decode cX3_takeBack 56 = .ok (.goto 17, 3) := by decide +kernel
theorem dX3_takeBack_59 : decode cX3_takeBack 59 = .ok (.aload_n 0, 1) := by decide +kernel
theorem dX3_takeBack_60 : decode cX3_takeBack 60 = .ok (.iload_n 3, 1) := by decide +kernel
theorem dX3_takeBack_61 : decode cX3_takeBack 61 = .ok (.invokevirtual 74, 3) := by decide +kernel
theorem dX3_takeBack_64 : decode cX3_takeBack 64 = .ok (.goto 9, 3) := by decide +kernel
theorem dX3_takeBack_67 : decode cX3_takeBack 67 = .ok (.aload_n 0, 1) := by decide +kernel
theorem dX3_takeBack_68 : decode cX3_takeBack 68 = .ok (.iload_n 3, 1) := by decide +kernel
theorem dX3_takeBack_69 : decode cX3_takeBack 69 = .ok (.iload_n 2, 1) := by decide +kernel
theorem dX3_takeBack_70 : decode cX3_takeBack 70 = .ok (.invokevirtual 78, 3) := by decide +kernel
theorem dX3_takeBack_73 : decode cX3_takeBack 73 = .ok (.return_, 1) := by decide +kernel
theorem dX3_howManyLeft_0 : decode cX3_howManyLeft 0 = .ok (.iconst 0, 1) := by decide +kernel
theorem dX3_howManyLeft_1 : decode cX3_howManyLeft 1 = .ok (.istore_n 1, 1) := by decide +kernel
theorem dX3_howManyLeft_2 : decode cX3_howManyLeft 2 = .ok (.iconst 0, 1) := by decide +kernel
theorem dX3_howManyLeft_3 : decode cX3_howManyLeft 3 = .ok (.istore_n 2, 1) := by decide +kernel
theorem dX3_howManyLeft_4 : decode cX3_howManyLeft 4 = .ok (.iload_n 2, 1) := by decide +kernel
theorem dX3_howManyLeft_5 : decode cX3_howManyLeft 5 = .ok (.aload_n 0, 1) := by decide +kernel
theorem dX3_howManyLeft_6 : decode cX3_howManyLeft 6 = .ok (.getfield 27, 3) := by decide +kernel
theorem dX3_howManyLeft_9 : decode cX3_howManyLeft 9 = .ok (.if_icmp .ge 24, 3) := by decide +kernel
theorem dX3_howManyLeft_12 : decode cX3_howManyLeft 12 = .ok (.iload_n 2, 1) := by decide +kernel
theorem dX3_howManyLeft_13 : decode cX3_howManyLeft 13 = .ok (.bipush 48, 2) := by decide +kernel
theorem dX3_howManyLeft_15 : decode cX3_howManyLeft 15 = .ok (.if_icmp .ge 18, 3) := by decide +kernel
theorem dX3_howManyLeft_18 : decode cX3_howManyLeft 18 = .ok (.iload_n 1, 1) := by decide +kernel
theorem dX3_howManyLeft_19 : decode cX3_howManyLeft 19 = .ok (.aload_n 0, 1) := by decide +kernel
theorem dX3_howManyLeft_20 : decode cX3_howManyLeft 20 = .ok (.getfield 15, 3) := by decide +kernel
theorem dX3_howManyLeft_23 : decode cX3_howManyLeft 23 = .ok (.iload_n 2, 1) := by decide +kernel
theorem dX3_howManyLeft_24 : decode cX3_howManyLeft 24 = .ok (.iaload, 1) := by decide +kernel
theorem dX3_howManyLeft_25 : decode cX3_howManyLeft 25 = .ok (.iadd, 1) := by decide +kernel
theorem dX3_howManyLeft_26 : decode cX3_howManyLeft 26 = .ok (.istore_n 1, 1) := by decide +kernel
theorem dX3_howManyLeft_27 : decode cX3_howManyLeft 27 = .ok (.iinc 2 1, 3) := by decide +kernel
theorem dX3_howManyLeft_30 : decode cX3_howManyLeft 30 = .ok (.goto (-26), 3) := by decide +kernel
theorem dX3_howManyLeft_33 : decode cX3_howManyLeft 33 = .ok (.iload_n 1, 1) := by decide +kernel
theorem dX3_howManyLeft_34 : decode cX3_howManyLeft 34 = .ok (.ireturn, 1) := by decide +kernel
theorem dX3_gather_0 : decode cX3_gather 0 = .ok (.aload_n 0, 1) := by decide +kernel
theorem dX3_gather_1 : decode cX3_gather 1 = .ok (.getfield 21, 3) := by decide +kernel
theorem dX3_gather_4 : decode cX3_gather 4 = .ok (.iconst 0, 1) := by decide +kernel
theorem dX3_gather_5 : decode cX3_gather 5 = .ok (.iaload, 1) := by decide +kernel
theorem dX3_gather_6 : decode cX3_gather 6 = .ok (.istore 4, 2) := by decide +kernel
theorem dX3_gather_8 : decode cX3_gather 8 = .ok (.aload_n 0, 1) := by decide +kernel
theorem dX3_gather_9 : decode cX3_gather 9 = .ok (.getfield 21, 3) := by decide +kernel
theorem dX3_gather_12 : decode cX3_gather 12 = .ok (.iconst 1, 1) := by decide +kernel
theorem dX3_gather_13 : decode cX3_gather 13 = .ok (.iaload, 1) := by decide +kernel
theorem dX3_gather_14 : decode cX3_gather 14 = .ok (.istore 5, 2) := by decide +kernel
theorem dX3_gather_16 : decode cX3_gather 16 = .ok (.aload_n 0, 1) := by decide +kernel
theorem dX3_gather_17 : decode cX3_gather 17 = .ok (.iconst 0, 1) := by decide +kernel
theorem dX3_gather_18 : decode cX3_gather 18 = .ok (.putfield 81, 3) := by decide +kernel
theorem dX3_gather_21 : decode cX3_gather 21 = .ok (.iload_n 2, 1) := by decide +kernel
theorem dX3_gather_22 : decode cX3_gather 22 = .ok (.iconst 1, 1) := by decide +kernel
theorem dX3_gather_23 : decode cX3_gather 23 = .ok (.if_icmp .eq 21, 3) := by decide +kernel
theorem dX3_gather_26 : decode cX3_gather 26 = .ok (.aload_n 0, 1) := by decide +kernel
theorem dX3_gather_27 : decode cX3_gather 27 = .ok (.iload_n 1, 1) := by decide +kernel
theorem dX3_gather_28 : decode cX3_gather 28 = .ok (.iload 5, 2) := by decide +kernel
theorem dX3_gather_30 : decode cX3_gather 30 = .ok (.isub, 1) := by decide +kernel
theorem dX3_gather_31 : decode cX3_gather 31 = .ok (.iload 4, 2) := by decide +kernel
theorem dX3_gather_33 : decode cX3_gather 33 = .ok (.isub, 1) := by decide +kernel
theorem dX3_gather_34 : decode cX3_gather 34 = .ok (.iload_n 1, 1) := by decide +kernel
theorem dX3_gather_35 : decode cX3_gather 35 = .ok (.iload 5, 2) := by decide +kernel
theorem dX3_gather_37 : decode cX3_gather 37 = .ok (.isub, 1) := by decide +kernel
theorem dX3_gather_38 : decode cX3_gather 38 = .ok (.iconst 1, 1) := by decide +kernel
theorem dX3_gather_39 : decode cX3_gather 39 = .ok (.isub, 1) := by decide +kernel
theorem dX3_gather_40 : decode cX3_gather 40 = .ok (.iload_n 3, 1) := by decide +kernel
theorem dX3_gather_41 : decode cX3_gather 41 = .ok (.invokevirtual 84, 3) := by decide +kernel
theorem dX3_gather_44 : decode cX3_gather 44 = .ok (.iload_n 2, 1) := by decide +kernel
theorem dX3_gather_45 : decode cX3_gather 45 = .ok (.ifCond .eq 21, 3) := by decide +kernel
theorem dX3_gather_48 : decode cX3_gather 48 = .ok (.aload_n 0, 1) := by decide +kernel
theorem dX3_gather_49 : decode cX3_gather 49 = .ok (.iload_n 1, 1) := by decide +kernel
theorem dX3_gather_50 : decode cX3_gather 50 = .ok (.iload 5, 2) := by decide +kernel
theorem dX3_gather_52 : decode cX3_gather 52 = .ok (.iadd, 1) := by decide +kernel
theorem dX3_gather_53 : decode cX3_gather 53 = .ok (.iconst 1, 1) := by decide +kernel
theorem dX3_gather_54 : decode cX3_gather 54 = .ok (.iadd, 1) := by decide +kernel
theorem dX3_gather_55 : decode cX3_gather 55 = .ok (.iload_n 1, 1) := by decide +kernel
theorem dX3_gather_56 : decode cX3_gather 56 = .ok (.iload 5, 2) := by decide +kernel
theorem dX3_gather_58 : decode cX3_gather 58 = .ok (.iadd, 1) := by decide +kernel
theorem dX3_gather_59 : decode cX3_gather 59 = .ok (.iload 4, 2) := by decide +kernel
theorem dX3_gather_61 : decode cX3_gather 61 = .ok (.iadd, 1) := by decide +kernel
theorem dX3_gather_62 : decode cX3_gather 62 = .ok (.iload_n 3, 1) := by decide +kernel
theorem dX3_gather_63 : decode cX3_gather 63 = .ok (.invokevirtual 84, 3) := by decide +kernel
theorem dX3_gather_66 : decode cX3_gather 66 = .ok (.aload_n 0, 1) := by decide +kernel
theorem dX3_gather_67 : decode cX3_gather 67 = .ok (.getfield 81, 3) := by decide +kernel
theorem dX3_gather_70 : decode cX3_gather 70 = .ok (.ireturn, 1) := by decide +kernel
theorem dX3_gatherFrom_0 : decode cX3_gatherFrom 0 = .ok (.iload_n 1, 1) := by decide +kernel
theorem dX3_gatherFrom_1 : decode cX3_gatherFrom 1 = .ok (.iconst 0, 1) := by decide +kernel
theorem dX3_gatherFrom_2 : decode cX3_gatherFrom 2 = .ok (.invokestatic 88, 3) := by decide +kernel
theorem dX3_gatherFrom_5 : decode cX3_gatherFrom 5 = .ok (.istore 4, 2) := by decide +kernel
theorem dX3_gatherFrom_7 : decode cX3_gatherFrom 7 = .ok (.iload 4, 2) := by decide +kernel
theorem dX3_gatherFrom_9 : decode cX3_gatherFrom 9 = .ok (.iload_n 2, 1) := by decide +kernel
theorem dX3_gatherFrom_10 : decode cX3_gatherFrom 10 = .ok (.if_icmp .gt 52, 3) := by decide +kernel
theorem dX3_gatherFrom_13 : decode cX3_gatherFrom 13 = .ok (.iload 4, 2) := by decide +kernel
theorem dX3_gatherFrom_15 : decode cX3_gatherFrom 15 = .ok (.aload_n 0, 1) := by decide +kernel
theorem dX3_gatherFrom_16 : decode cX3_gatherFrom 16 = .ok (.getfield 27, 3) := by decide +kernel
theorem dX3_gatherFrom_19 : decode cX3_gatherFrom 19 = .ok (.if_icmp .ge 43, 3) := by decide +kernel
theorem dX3_gatherFrom_22 : decode cX3_gatherFrom 22 = .ok (.iload 4, 2) := by decide +kernel
theorem dX3_gatherFrom_24 : decode cX3_gatherFrom 24 = .ok (.bipush 48, 2) := by decide +kernel
theorem dX3_gatherFrom_26 : decode cX3_gatherFrom 26 = .ok (.if_icmp .ge 36, 3) := by decide +kernel
theorem dX3_gatherFrom_29 : decode cX3_gatherFrom 29 = .ok (.aload_n 0, 1) := by decide +kernel
theorem dX3_gatherFrom_30 : decode cX3_gatherFrom 30 = .ok (.getfield 15, 3) := by decide +kernel
theorem dX3_gatherFrom_33 : decode cX3_gatherFrom 33 = .ok (.iload 4, 2) := by decide +kernel
theorem dX3_gatherFrom_35 : decode cX3_gatherFrom 35 = .ok (.iaload, 1) := by decide +kernel
theorem dX3_gatherFrom_36 : decode cX3_gatherFrom 36 = .ok (.ifCond .ne 20, 3) := by decide +kernel
theorem dX3_gatherFrom_39 : decode cX3_gatherFrom 39 = .ok (.iload 4, 2) := by decide +kernel
theorem dX3_gatherFrom_41 : decode cX3_gatherFrom 41 = .ok (.iload_n 3, 1) := by decide +kernel
theorem dX3_gatherFrom_42 : decode cX3_gatherFrom 42 = .ok (.if_icmp .eq 14, 3) := by decide +kernel
theorem dX3_gatherFrom_45 : decode cX3_gatherFrom 45 = .ok (.aload_n 0, 1) := by decide +kernel
theorem dX3_gatherFrom_46 : decode cX3_gatherFrom 46 = .ok (.aload_n 0, 1) := by decide +kernel
theorem dX3_gatherFrom_47 : decode cX3_gatherFrom 47 = .ok (.getfield 9, 3) := by decide +kernel
theorem dX3_gatherFrom_50 : decode cX3_gatherFrom 50 = .ok (.iload 4, 2) := by decide +kernel
theorem dX3_gatherFrom_52 : decode cX3_gatherFrom 52 = .ok (.iaload, 1) := by decide +kernel
theorem dX3_gatherFrom_53 : decode cX3_gatherFrom 53 = .ok (.invokevirtual 94, 3) := by decide +kernel
theorem dX3_gatherFrom_56 : decode cX3_gatherFrom 56 = .ok (.iinc 4 1, 3) := by decide +kernel
theorem dX3_gatherFrom_59 : decode cX3_gatherFrom 59 = .ok (.goto (-52), 3) := by decide +kernel
theorem dX3_gatherFrom_62 : decode cX3_gatherFrom 62 = .ok (.return_, 1) := by decide +kernel
theorem dX3_sortIn_0 : decode cX3_sortIn 0 = .ok (.aload_n 0, 1) := by decide +kernel
theorem dX3_sortIn_1 : decode cX3_sortIn 1 = .ok (.getfield 81, 3) := by decide +kernel
theorem dX3_sortIn_4 : decode cX3_sortIn 4 = .ok (.ifCond .lt 12, 3) := by decide +kernel
theorem dX3_sortIn_7 : decode cX3_sortIn 7 = .ok (.aload_n 0, 1) := by decide +kernel
theorem dX3_sortIn_8 : decode cX3_sortIn 8 = .ok (.getfield 81, 3) := by decide +kernel
theorem dX3_sortIn_11 : decode cX3_sortIn 11 = .ok (.bipush 12, 2) := by decide +kernel
theorem dX3_sortIn_13 : decode cX3_sortIn 13 = .ok (.if_icmp .lt 4, 3) := by decide +kernel
theorem dX3_sortIn_16 : decode cX3_sortIn 16 = .ok (.return_, 1) := by decide +kernel
theorem dX3_sortIn_17 : decode cX3_sortIn 17 = .ok (.aload_n 0, 1) := by decide +kernel
theorem dX3_sortIn_18 : decode cX3_sortIn 18 = .ok (.getfield 81, 3) := by decide +kernel
theorem dX3_sortIn_21 : decode cX3_sortIn 21 = .ok (.istore_n 2, 1) := by decide +kernel
theorem dX3_sortIn_22 : decode cX3_sortIn 22 = .ok (.iload_n 2, 1) := by decide +kernel
theorem dX3_sortIn_23 : decode cX3_sortIn 23 = .ok (.ifCond .le 35, 3) := by decide +kernel
theorem dX3_sortIn_26 : decode cX3_sortIn 26 = .ok (.aload_n 0, 1) := by decide +kernel
theorem dX3_sortIn_27 : decode cX3_sortIn 27 = .ok (.getfield 24, 3) := by decide +kernel
theorem dX3_sortIn_30 : decode cX3_sortIn 30 = .ok (.iload_n 2, 1) := by decide +kernel
theorem dX3_sortIn_31 : decode cX3_sortIn 31 = .ok (.iconst 1, 1) := by decide +kernel
theorem dX3_sortIn_32 : decode cX3_sortIn 32 = .ok (.isub, 1) := by decide +kernel
theorem dX3_sortIn_33 : decode cX3_sortIn 33 = .ok (.iaload, 1) := by decide +kernel
theorem dX3_sortIn_34 : decode cX3_sortIn 34 = .ok (.iload_n 1, 1) := by decide +kernel
theorem dX3_sortIn_35 : decode cX3_sortIn 35 = .ok (.if_icmp .le 23, 3) := by decide +kernel
theorem dX3_sortIn_38 : decode cX3_sortIn 38 = .ok (.aload_n 0, 1) := by decide +kernel
theorem dX3_sortIn_39 : decode cX3_sortIn 39 = .ok (.getfield 24, 3) := by decide +kernel
theorem dX3_sortIn_42 : decode cX3_sortIn 42 = .ok (.iload_n 2, 1) := by decide +kernel
theorem dX3_sortIn_43 : decode cX3_sortIn 43 = .ok (.aload_n 0, 1) := by decide +kernel
theorem dX3_sortIn_44 : decode cX3_sortIn 44 = .ok (.getfield 24, 3) := by decide +kernel
theorem dX3_sortIn_47 : decode cX3_sortIn 47 = .ok (.iload_n 2, 1) := by decide +kernel
theorem dX3_sortIn_48 : decode cX3_sortIn 48 = .ok (.iconst 1, 1) := by decide +kernel
theorem dX3_sortIn_49 : decode cX3_sortIn 49 = .ok (.isub, 1) := by decide +kernel
theorem dX3_sortIn_50 : decode cX3_sortIn 50 = .ok (.iaload, 1) := by decide +kernel
theorem dX3_sortIn_51 : decode cX3_sortIn 51 = .ok (.iastore, 1) := by decide +kernel
theorem dX3_sortIn_52 : decode cX3_sortIn 52 = .ok (.iinc 2 (-1), 3) := by decide +kernel
theorem dX3_sortIn_55 : decode cX3_sortIn 55 = .ok (.goto (-33), 3) := by decide +kernel
theorem dX3_sortIn_58 : decode cX3_sortIn 58 = .ok (.aload_n 0, 1) := by decide +kernel
theorem dX3_sortIn_59 : decode cX3_sortIn 59 = .ok (.getfield 24, 3) := by decide +kernel
theorem dX3_sortIn_62 : decode cX3_sortIn 62 = .ok (.iload_n 2, 1) := by decide +kernel
theorem dX3_sortIn_63 : decode cX3_sortIn 63 = .ok (.iload_n 1, 1) := by decide +kernel
theorem dX3_sortIn_64 : decode cX3_sortIn 64 = .ok (.iastore, 1) := by decide +kernel
theorem dX3_sortIn_65 : decode cX3_sortIn 65 = .ok (.aload_n 0, 1) := by decide +kernel
theorem dX3_sortIn_66 : decode cX3_sortIn 66 = .ok (.dup, 1) := by decide +kernel
theorem dX3_sortIn_67 : decode cX3_sortIn 67 = .ok (.getfield 81, 3) := by decide +kernel
theorem dX3_sortIn_70 : decode cX3_sortIn 70 = .ok (.iconst 1, 1) := by decide +kernel
theorem dX3_sortIn_71 : decode cX3_sortIn 71 = .ok (.iadd, 1) := by decide +kernel
theorem dX3_sortIn_72 : decode cX3_sortIn 72 = .ok (.putfield 81, 3) := by decide +kernel
theorem dX3_sortIn_75 : decode cX3_sortIn 75 = .ok (.return_, 1) := by decide +kernel
theorem dX3_floorOf_0 : decode cX3_floorOf 0 = .ok (.aload_n 0, 1) := by decide +kernel
theorem dX3_floorOf_1 : decode cX3_floorOf 1 = .ok (.getfield 51, 3) := by decide +kernel
theorem dX3_floorOf_4 : decode cX3_floorOf 4 = .ok (.ifCond .ne 11, 3) := by decide +kernel
theorem dX3_floorOf_7 : decode cX3_floorOf 7 = .ok (.aload_n 0, 1) := by decide +kernel
theorem dX3_floorOf_8 : decode cX3_floorOf 8 = .ok (.iload_n 1, 1) := by decide +kernel
theorem dX3_floorOf_9 : decode cX3_floorOf 9 = .ok (.iconst 2, 1) := by decide +kernel
theorem dX3_floorOf_10 : decode cX3_floorOf 10 = .ok (.iload_n 2, 1) := by decide +kernel
theorem dX3_floorOf_11 : decode cX3_floorOf 11 = .ok (.invokevirtual 97, 3) := by decide +kernel
theorem dX3_floorOf_14 : decode cX3_floorOf 14 = .ok (.ireturn, 1) := by decide +kernel
theorem dX3_floorOf_15 : decode cX3_floorOf 15 = .ok (.aload_n 0, 1) := by decide +kernel
theorem dX3_floorOf_16 : decode cX3_floorOf 16 = .ok (.iload_n 1, 1) := by decide +kernel
theorem dX3_floorOf_17 : decode cX3_floorOf 17 = .ok (.iconst 0, 1) := by decide +kernel
theorem dX3_floorOf_18 : decode cX3_floorOf 18 = .ok (.iload_n 2, 1) := by decide +kernel
theorem dX3_floorOf_19 : decode cX3_floorOf 19 = .ok (.invokevirtual 97, 3) := by decide +kernel
theorem dX3_floorOf_22 : decode cX3_floorOf 22 = .ok (.istore_n 3, 1) := by decide +kernel
theorem dX3_floorOf_23 : decode cX3_floorOf 23 = .ok (.aload_n 0, 1) := by decide +kernel
theorem dX3_floorOf_24 : decode cX3_floorOf 24 = .ok (.iload_n 1, 1) := by decide +kernel
theorem dX3_floorOf_25 : decode cX3_floorOf 25 = .ok (.iconst 1, 1) := by decide +kernel
theorem dX3_floorOf_26 : decode cX3_floorOf 26 = .ok (.iload_n 2, 1) := by decide +kernel
theorem dX3_floorOf_27 : decode cX3_floorOf 27 = .ok (.invokevirtual 97, 3) := by decide +kernel
theorem dX3_floorOf_30 : decode cX3_floorOf 30 = .ok (.istore 4, 2) := by decide +kernel
theorem dX3_floorOf_32 : decode cX3_floorOf 32 = .ok (.iload_n 3, 1) := by decide +kernel
theorem dX3_floorOf_33 : decode cX3_floorOf 33 = .ok (.bipush (-4), 2) := by decide +kernel
theorem dX3_floorOf_35 : decode cX3_floorOf 35 = .ok (.if_icmp .ne 6, 3) := by decide +kernel
theorem dX3_floorOf_38 : decode cX3_floorOf 38 = .ok (.iload 4, 2) := by decide +kernel
theorem dX3_floorOf_40 : decode cX3_floorOf 40 = .ok (.ireturn, 1) := by decide +kernel
theorem dX3_floorOf_41 : decode cX3_floorOf 41 = .ok (.iload 4, 2) := by decide +kernel
theorem dX3_floorOf_43 : decode cX3_floorOf 43 = .ok (.bipush (-4), 2) := by decide +kernel
theorem dX3_floorOf_45 : decode cX3_floorOf 45 = .ok (.if_icmp .ne 5, 3) := by decide +kernel
theorem dX3_floorOf_48 : decode cX3_floorOf 48 = .ok (.iload_n 3, 1) := by decide +kernel
theorem dX3_floorOf_49 : decode cX3_floorOf 49 = .ok (.ireturn, 1) := by decide +kernel
theorem dX3_floorOf_50 : decode cX3_floorOf 50 = .ok (.aload_n 0, 1) := by decide +kernel
theorem dX3_floorOf_51 : decode cX3_floorOf 51 = .ok (.getfield 51, 3) := by decide +kernel
theorem dX3_floorOf_54 : decode cX3_floorOf 54 = .ok (.iconst 1, 1) := by decide +kernel
theorem dX3_floorOf_55 : decode cX3_floorOf 55 = .ok (.if_icmp .ne 12, 3) := by decide +kernel
theorem dX3_floorOf_58 : decode cX3_floorOf 58 = .ok (.iload_n 3, 1) := by decide +kernel
theorem dX3_floorOf_59 : decode cX3_floorOf 59 = .ok (.iload 4, 2) := by decide +kernel
theorem dX3_floorOf_61 : decode cX3_floorOf 61 = .ok (.invokestatic 88, 3) := by decide +kernel
theorem dX3_floorOf_64 : decode cX3_floorOf 64 = .ok (.goto 9, 3) := by decide +kernel
theorem dX3_floorOf_67 : decode cX3_floorOf 67 = .ok (.iload_n 3, 1) := by decide +kernel
theorem dX3_floorOf_68 : decode cX3_floorOf 68 = .ok (.iload 4, 2) := by decide +kernel
theorem dX3_floorOf_70 : decode cX3_floorOf 70 = .ok (.invokestatic 101, 3) := by decide +kernel
theorem dX3_floorOf_73 : decode cX3_floorOf 73 = .ok (.ireturn, 1) := by decide +kernel
theorem dX3_rankOn_0 : decode cX3_rankOn 0 = .ok (.aload_n 0, 1) := by decide +kernel
theorem dX3_rankOn_1 : decode cX3_rankOn 1 = .ok (.iload_n 1, 1) := by decide +kernel
theorem dX3_rankOn_2 : decode cX3_rankOn 2 = .ok (.iload_n 2, 1) := by decide +kernel
theorem dX3_rankOn_3 : decode cX3_rankOn 3 = .ok (.iload_n 3, 1) := by decide +kernel
theorem dX3_rankOn_4 : decode cX3_rankOn 4 = .ok (.invokevirtual 104, 3) := by decide +kernel
theorem dX3_rankOn_7 : decode cX3_rankOn 7 = .ok (.aload_n 0, 1) := by decide +kernel
theorem dX3_rankOn_8 : decode cX3_rankOn 8 = .ok (.getfield 21, 3) := by decide +kernel
theorem dX3_rankOn_11 : decode cX3_rankOn 11 = .ok (.iconst 2, 1) := by decide +kernel
theorem dX3_rankOn_12 : decode cX3_rankOn 12 = .ok (.iaload, 1) := by decide +kernel
theorem dX3_rankOn_13 : decode cX3_rankOn 13 = .ok (.invokestatic 101, 3) := by decide +kernel
theorem dX3_rankOn_16 : decode cX3_rankOn 16 = .ok (.iconst 1, 1) := by decide +kernel
theorem dX3_rankOn_17 : decode cX3_rankOn 17 = .ok (.isub, 1) := by decide +kernel
theorem dX3_rankOn_18 : decode cX3_rankOn 18 = .ok (.istore 4, 2) := by decide +kernel
theorem dX3_rankOn_20 : decode cX3_rankOn 20 = .ok (.iload 4, 2) := by decide +kernel
theorem dX3_rankOn_22 : decode cX3_rankOn 22 = .ok (.ifCond .lt 20, 3) := by decide +kernel
theorem dX3_rankOn_25 : decode cX3_rankOn 25 = .ok (.iload 4, 2) := by decide +kernel
theorem dX3_rankOn_27 : decode cX3_rankOn 27 = .ok (.bipush 12, 2) := by decide +kernel
theorem dX3_rankOn_29 : decode cX3_rankOn 29 = .ok (.if_icmp .ge 13, 3) := by decide +kernel
theorem dX3_rankOn_32 : decode cX3_rankOn 32 = .ok (.aload_n 0, 1) := by decide +kernel
theorem dX3_rankOn_33 : decode cX3_rankOn 33 = .ok (.getfield 24, 3) := by decide +kernel
theorem dX3_rankOn_36 : decode cX3_rankOn 36 = .ok (.iload 4, 2) := by decide +kernel
theorem dX3_rankOn_38 : decode cX3_rankOn 38 = .ok (.iaload, 1) := by decide +kernel
theorem dX3_rankOn_39 : decode cX3_rankOn 39 = .ok (.goto 5, 3) := by decide +kernel
theorem dX3_rankOn_42 : decode cX3_rankOn 42 = .ok (.bipush (-4), 2) := by decide +kernel
theorem dX3_rankOn_44 : decode cX3_rankOn 44 = .ok (.ireturn, 1) := by decide +kernel
theorem dX3_outdoes_0 : decode cX3_outdoes 0 = .ok (.aload_n 0, 1) := by decide +kernel
theorem dX3_outdoes_1 : decode cX3_outdoes 1 = .ok (.iload_n 1, 1) := by decide +kernel
theorem dX3_outdoes_2 : decode cX3_outdoes 2 = .ok (.invokevirtual 56, 3) := by decide +kernel
theorem dX3_outdoes_5 : decode cX3_outdoes 5 = .ok (.ifCond .eq 41, 3) := by decide +kernel
theorem dX3_outdoes_8 : decode cX3_outdoes 8 = .ok (.aload_n 0, 1) := by decide +kernel
theorem dX3_outdoes_9 : decode cX3_outdoes 9 = .ok (.getfield 15, 3) := by decide +kernel
theorem dX3_outdoes_12 : decode cX3_outdoes 12 = .ok (.iload_n 1, 1) := by decide +kernel
theorem dX3_outdoes_13 : decode cX3_outdoes 13 = .ok (.iaload, 1) := by decide +kernel
theorem dX3_outdoes_14 : decode cX3_outdoes 14 = .ok (.ifCond .ne 32, 3) := by decide +kernel
theorem dX3_outdoes_17 : decode cX3_outdoes 17 = .ok (.iload_n 2, 1) := by decide +kernel
theorem dX3_outdoes_18 : decode cX3_outdoes 18 = .ok (.bipush (-4), 2) := by decide +kernel
theorem dX3_outdoes_20 : decode cX3_outdoes 20 = .ok (.if_icmp .eq 26, 3) := by decide +kernel
theorem dX3_outdoes_23 : decode cX3_outdoes 23 = .ok (.aload_n 0, 1) := by decide +kernel
theorem dX3_outdoes_24 : decode cX3_outdoes 24 = .ok (.getfield 21, 3) := by decide +kernel
theorem dX3_outdoes_27 : decode cX3_outdoes 27 = .ok (.iconst 4, 1) := by decide +kernel
theorem dX3_outdoes_28 : decode cX3_outdoes 28 = .ok (.iaload, 1) := by decide +kernel
theorem dX3_outdoes_29 : decode cX3_outdoes 29 = .ok (.aload_n 0, 1) := by decide +kernel
theorem dX3_outdoes_30 : decode cX3_outdoes 30 = .ok (.getfield 9, 3) := by decide +kernel
theorem dX3_outdoes_33 : decode cX3_outdoes 33 = .ok (.iload_n 1, 1) := by decide +kernel
theorem dX3_outdoes_34 : decode cX3_outdoes 34 = .ok (.iaload, 1) := by decide +kernel
theorem dX3_outdoes_35 : decode cX3_outdoes 35 = .ok (.imul, 1) := by decide +kernel
theorem dX3_outdoes_36 : decode cX3_outdoes 36 = .ok (.iload_n 3, 1) := by decide +kernel
theorem dX3_outdoes_37 : decode cX3_outdoes 37 = .ok (.iload_n 2, 1) := by decide +kernel
theorem dX3_outdoes_38 : decode cX3_outdoes 38 = .ok (.imul, 1) := by decide +kernel
theorem dX3_outdoes_39 : decode cX3_outdoes 39 = .ok (.if_icmp .le 7, 3) := by decide +kernel
theorem dX3_outdoes_42 : decode cX3_outdoes 42 = .ok (.iconst 1, 1) := by decide +kernel
theorem dX3_outdoes_43 : decode cX3_outdoes 43 = .ok (.goto 4, 3) := by decide +kernel
theorem dX3_outdoes_46 : decode cX3_outdoes 46 = .ok (.iconst 0, 1) := by decide +kernel
theorem dX3_outdoes_47 : decode cX3_outdoes 47 = .ok (.ireturn, 1) := by decide +kernel
theorem dX3_alarmsWithout_0 : decode cX3_alarmsWithout 0 = .ok (.aload_n 0, 1) := by decide +kernel
theorem dX3_alarmsWithout_1 : decode cX3_alarmsWithout 1 = .ok (.iload_n 1, 1) := by decide +kernel
theorem dX3_alarmsWithout_2 : decode cX3_alarmsWithout 2 = .ok (.aload_n 0, 1) := by decide +kernel
theorem dX3_alarmsWithout_3 : decode cX3_alarmsWithout 3 = .ok (.iload_n 1, 1) := by decide +kernel
theorem dX3_alarmsWithout_4 : decode cX3_alarmsWithout 4 = .ok (.iload_n 2, 1) := by decide +kernel
theorem dX3_alarmsWithout_5 : decode cX3_alarmsWithout 5 = .ok (.invokevirtual 107, 3) := by decide +kernel
theorem dX3_alarmsWithout_8 : decode cX3_alarmsWithout 8 = .ok (.aload_n 0, 1) := by decide +kernel
theorem dX3_alarmsWithout_9 : decode cX3_alarmsWithout 9 = .ok (.getfield 21, 3) := by decide +kernel
theorem dX3_alarmsWithout_12 : decode cX3_alarmsWithout 12 = .ok (.iconst 3, 1) := by decide +kernel
theorem dX3_alarmsWithout_13 : decode cX3_alarmsWithout 13 = .ok (.iaload, 1) := by decide +kernel
theorem dX3_alarmsWithout_14 : decode cX3_alarmsWithout 14 = .ok (.invokevirtual 110, 3) := by decide +kernel
theorem dX3_alarmsWithout_17 : decode cX3_alarmsWithout 17 = .ok (.ireturn, 1) := by decide +kernel
theorem dX3_isHidden_0 : decode cX3_isHidden 0 = .ok (.aload_n 0, 1) := by decide +kernel
theorem dX3_isHidden_1 : decode cX3_isHidden 1 = .ok (.iload_n 1, 1) := by decide +kernel
theorem dX3_isHidden_2 : decode cX3_isHidden 2 = .ok (.bipush (-4), 2) := by decide +kernel
theorem dX3_isHidden_4 : decode cX3_isHidden 4 = .ok (.invokevirtual 114, 3) := by decide +kernel
theorem dX3_isHidden_7 : decode cX3_isHidden 7 = .ok (.ifCond .ne 16, 3) := by decide +kernel
theorem dX3_isHidden_10 : decode cX3_isHidden 10 = .ok (.aload_n 0, 1) := by decide +kernel
theorem dX3_isHidden_11 : decode cX3_isHidden 11 = .ok (.iload_n 1, 1) := by decide +kernel
theorem dX3_isHidden_12 : decode cX3_isHidden 12 = .ok (.iload_n 2, 1) := by decide +kernel
theorem dX3_isHidden_13 : decode cX3_isHidden 13 = .ok (.invokevirtual 114, 3) := by decide +kernel
theorem dX3_isHidden_16 : decode cX3_isHidden 16 = .ok (.ifCond .eq 7, 3) := by decide +kernel
theorem dX3_isHidden_19 : decode cX3_isHidden 19 = .ok (.iconst 1, 1) := by decide +kernel
theorem dX3_isHidden_20 : decode cX3_isHidden 20 = .ok (.goto 4, 3) := by decide +kernel
theorem dX3_isHidden_23 : decode cX3_isHidden 23 = .ok (.iconst 0, 1) := by decide +kernel
theorem dX3_isHidden_24 : decode cX3_isHidden 24 = .ok (.ireturn, 1) := by decide +kernel
theorem dX4_init_0 : decode cX4_init 0 = .ok (.aload_n 0, 1) := by decide +kernel
theorem dX4_init_1 : decode cX4_init 1 = .ok (.invokespecial 3, 3) := by decide +kernel
theorem dX4_init_4 : decode cX4_init 4 = .ok (.aload_n 0, 1) := by decide +kernel
theorem dX4_init_5 : decode cX4_init 5 = .ok (.sipush 200, 3) := by decide +kernel
theorem dX4_init_8 : decode cX4_init 8 = .ok (.newarray .int, 2) := by decide +kernel
theorem dX4_init_10 : decode cX4_init 10 = .ok (.putfield 9, 3) := by decide +kernel
theorem dX4_init_13 : decode cX4_init 13 = .ok (.aload_n 0, 1) := by decide +kernel
theorem dX4_init_14 : decode cX4_init 14 = .ok (.bipush 48, 2) := by decide +kernel
theorem dX4_init_16 : decode cX4_init 16 = .ok (.newarray .int, 2) := by decide +kernel
theorem dX4_init_18 : decode cX4_init 18 = .ok (.putfield 15, 3) := by decide +kernel
theorem dX4_init_21 : decode cX4_init 21 = .ok (.return_, 1) := by decide +kernel
theorem dX4_append_0 : decode cX4_append 0 = .ok (.aload_n 0, 1) := by decide +kernel
theorem dX4_append_1 : decode cX4_append 1 = .ok (.getfield 18, 3) := by decide +kernel
theorem dX4_append_4 : decode cX4_append 4 = .ok (.sipush 200, 3) := by decide +kernel
theorem dX4_append_7 : decode cX4_append 7 = .ok (.if_icmp .ge 23, 3) := by decide +kernel
theorem dX4_append_10 : decode cX4_append 10 = .ok (.aload_n 0, 1) := by decide +kernel
theorem dX4_append_11 : decode cX4_append 11 = .ok (.getfield 9, 3) := by decide +kernel
theorem dX4_append_14 : decode cX4_append 14 = .ok (.aload_n 0, 1) := by decide +kernel
theorem dX4_append_15 : decode cX4_append 15 = .ok (.getfield 18, 3) := by decide +kernel
theorem dX4_append_18 : decode cX4_append 18 = .ok (.iload_n 1, 1) := by decide +kernel
theorem dX4_append_19 : decode cX4_append 19 = .ok (.iastore, 1) := by decide +kernel
theorem dX4_append_20 : decode cX4_append 20 = .ok (.aload_n 0, 1) := by decide +kernel
theorem dX4_append_21 : decode cX4_append 21 = .ok (.dup, 1) := by decide +kernel
theorem dX4_append_22 : decode cX4_append 22 = .ok (.getfield 18, 3) := by decide +kernel
theorem dX4_append_25 : decode cX4_append 25 = .ok (.iconst 1, 1) := by decide +kernel
theorem dX4_append_26 : decode cX4_append 26 = .ok (.iadd, 1) := by decide +kernel
theorem dX4_append_27 : decode cX4_append 27 = .ok (.putfield 18, 3) := by decide +kernel
theorem dX4_append_30 : decode cX4_append 30 = .ok (.return_, 1) := by decide +kernel
theorem dX4_readInto_0 : decode cX4_readInto 0 = .ok (.aload_n 1, 1) := by decide +kernel
theorem dX4_readInto_1 : decode cX4_readInto 1 = .ok (.invokevirtual 22, 3) := by decide +kernel
theorem dX4_readInto_4 : decode cX4_readInto 4 = .ok (.iconst 0, 1) := by decide +kernel
theorem dX4_readInto_5 : decode cX4_readInto 5 = .ok (.istore_n 2, 1) := by decide +kernel
theorem dX4_readInto_6 : decode cX4_readInto 6 = .ok (.iconst 0, 1) := by decide +kernel
theorem dX4_readInto_7 : decode cX4_readInto 7 = .ok (.istore_n 3, 1) := by decide +kernel
theorem dX4_readInto_8 : decode cX4_readInto 8 = .ok (.iload_n 3, 1) := by decide +kernel
theorem dX4_readInto_9 : decode cX4_readInto 9 = .ok (.sipush 200, 3) := by decide +kernel
theorem dX4_readInto_12 : decode cX4_readInto 12 = .ok (.if_icmp .ge 49, 3) := by decide +kernel
theorem dX4_readInto_15 : decode cX4_readInto 15 = .ok (.iload_n 2, 1) := by decide +kernel
theorem dX4_readInto_16 : decode cX4_readInto 16 = .ok (.aload_n 0, 1) := by decide +kernel
theorem dX4_readInto_17 : decode cX4_readInto 17 = .ok (.getfield 18, 3) := by decide +kernel
theorem dX4_readInto_20 : decode cX4_readInto 20 = .ok (.if_icmp .ge 41, 3) := by decide +kernel
theorem dX4_readInto_23 : decode cX4_readInto 23 = .ok (.aload_n 0, 1) := by decide +kernel
theorem dX4_readInto_24 : decode cX4_readInto 24 = .ok (.iload_n 2, 1) := by decide +kernel
theorem dX4_readInto_25 : decode cX4_readInto 25 = .ok (.invokevirtual 27, 3) := by decide +kernel
theorem dX4_readInto_28 : decode cX4_readInto 28 = .ok (.istore 4, 2) := by decide +kernel
theorem dX4_readInto_30 : decode cX4_readInto 30 = .ok (.iload 4, 2) := by decide +kernel
theorem dX4_readInto_32 : decode cX4_readInto 32 = .ok (.bipush (-4), 2) := by decide +kernel
theorem dX4_readInto_34 : decode cX4_readInto 34 = .ok (.if_icmp .eq 14, 3) := by decide +kernel
theorem dX4_readInto_37 : decode cX4_readInto 37 = .ok (.aload_n 0, 1) := by decide +kernel
theorem dX4_readInto_38 : decode cX4_readInto 38 = .ok (.iload_n 2, 1) := by decide +kernel
theorem dX4_readInto_39 : decode cX4_readInto 39 = .ok (.iload 4, 2) := by decide +kernel
theorem dX4_readInto_41 : decode cX4_readInto 41 = .ok (.aload_n 1, 1) := by decide +kernel
theorem dX4_readInto_42 : decode cX4_readInto 42 = .ok (.invokevirtual 31, 3) := by decide +kernel
theorem dX4_readInto_45 : decode cX4_readInto 45 = .ok (.ifCond .ne 5, 3) := by decide +kernel
theorem dX4_readInto_48 : decode cX4_readInto 48 = .ok (.iload_n 2, 1) := by decide +kernel
theorem dX4_readInto_49 : decode cX4_readInto 49 = .ok (.ireturn, 1) := by decide +kernel
theorem dX4_readInto_50 : decode cX4_readInto 50 = .ok (.iload 4, 2) := by decide +kernel
theorem dX4_readInto_52 : decode cX4_readInto 52 = .ok (.iconst 1, 1) := by decide +kernel
theorem dX4_readInto_53 : decode cX4_readInto 53 = .ok (.iadd, 1) := by decide +kernel
theorem dX4_readInto_54 : decode cX4_readInto 54 = .ok (.istore_n 2, 1) := by decide +kernel
theorem dX4_readInto_55 : decode cX4_readInto 55 = .ok (.iinc 3 1, 3) := by decide +kernel
theorem dX4_readInto_58 : decode cX4_readInto 58 = .ok (.goto (-50), 3) := by decide +kernel
theorem dX4_readInto_61 : decode cX4_readInto 61 = .ok (.bipush (-4), 2) := by decide +kernel
theorem dX4_readInto_63 : decode cX4_readInto 63 = .ok (.ireturn, 1) := by decide +kernel
theorem dX4_endOfItem_0 : decode cX4_endOfItem 0 = .ok (.iload_n 1, 1) := by decide +kernel
theorem dX4_endOfItem_1 : decode cX4_endOfItem 1 = .ok (.istore_n 2, 1) := by decide +kernel
theorem dX4_endOfItem_2 : decode cX4_endOfItem 2 = .ok (.iload_n 2, 1) := by decide +kernel
theorem dX4_endOfItem_3 : decode cX4_endOfItem 3 = .ok (.aload_n 0, 1) := by decide +kernel
theorem dX4_endOfItem_4 : decode cX4_endOfItem 4 = .ok (.getfield 18, 3) := by decide +kernel
theorem dX4_endOfItem_7 : decode cX4_endOfItem 7 = .ok (.if_icmp .ge 22, 3) := by decide +kernel
theorem dX4_endOfItem_10 : decode cX4_endOfItem 10 = .ok (.aload_n 0, 1) := by decide +kernel
theorem dX4_endOfItem_11 : decode cX4_endOfItem 11 = .ok (.getfield 9, 3) := by decide +kernel
theorem dX4_endOfItem_14 : decode cX4_endOfItem 14 = .ok (.iload_n 2, 1) := by decide +kernel
theorem dX4_endOfItem_15 : decode cX4_endOfItem 15 = .ok (.iaload, 1) := by decide +kernel
theorem dX4_endOfItem_16 : decode cX4_endOfItem 16 = .ok (.bipush 59, 2) := by decide +kernel
theorem dX4_endOfItem_18 : decode cX4_endOfItem 18 = .ok (.if_icmp .ne 5, 3) := by decide +kernel
theorem dX4_endOfItem_21 : decode cX4_endOfItem 21 = .ok (.iload_n 2, 1) := by decide +kernel
theorem dX4_endOfItem_22 : decode cX4_endOfItem 22 = .ok (.ireturn, 1) := by decide +kernel
theorem dX4_endOfItem_23 : decode cX4_endOfItem 23 = .ok (.iinc 2 1, 3) := by decide +kernel
theorem dX4_endOfItem_26 : decode cX4_endOfItem 26 = .ok (.goto (-24), 3) := by decide +kernel
theorem dX4_endOfItem_29 : decode cX4_endOfItem 29 = .ok (.bipush (-4), 2) := by decide +kernel
theorem dX4_endOfItem_31 : decode cX4_endOfItem 31 = .ok (.ireturn, 1) := by decide +kernel
theorem dX4_readItem_0 : decode cX4_readItem 0 = .ok (.iload_n 1, 1) := by decide +kernel
theorem dX4_readItem_1 : decode cX4_readItem 1 = .ok (.iconst 5, 1) := by decide +kernel
theorem dX4_readItem_2 : decode cX4_readItem 2 = .ok (.iadd, 1) := by decide +kernel
theorem dX4_readItem_3 : decode cX4_readItem 3 = .ok (.istore 4, 2) := by decide +kernel
theorem dX4_readItem_5 : decode cX4_readItem 5 = .ok (.aload_n 0, 1) := by decide +kernel
theorem dX4_readItem_6 : decode cX4_readItem 6 = .ok (.ldc 35, 2) := by decide +kernel
theorem dX4_readItem_8 : decode cX4_readItem 8 = .ok (.iload_n 1, 1) := by decide +kernel
theorem dX4_readItem_9 : decode cX4_readItem 9 = .ok (.iload 4, 2) := by decide +kernel
theorem dX4_readItem_11 : decode cX4_readItem 11 = .ok (.invokevirtual 37, 3) := by decide +kernel
theorem dX4_readItem_14 : decode cX4_readItem 14 = .ok (.ifCond .eq 12, 3) := by decide +kernel
theorem dX4_readItem_17 : decode cX4_readItem 17 = .ok (.aload_n 0, 1) := by decide +kernel
theorem dX4_readItem_18 : decode cX4_readItem 18 = .ok (.iload 4, 2) := by decide +kernel
theorem dX4_readItem_20 : decode cX4_readItem 20 = .ok (.iload_n 2, 1) := by decide +kernel
theorem dX4_readItem_21 : decode cX4_readItem 21 = .ok (.aload_n 3, 1) := by decide +kernel
theorem dX4_readItem_22 : decode cX4_readItem 22 = .ok (.invokevirtual 41, 3) := by decide +kernel
theorem dX4_readItem_25 : decode cX4_readItem 25 = .ok (.ireturn, 1) := by decide +kernel
theorem dX4_readItem_26 : decode cX4_readItem 26 = .ok (.aload_n 0, 1) := by decide +kernel
theorem dX4_readItem_27 : decode cX4_readItem 27 = .ok (.ldc 44, 2) := by decide +kernel
theorem dX4_readItem_29 : decode cX4_readItem 29 = .ok (.iload_n 1, 1) := by decide +kernel
theorem dX4_readItem_30 : decode cX4_readItem 30 = .ok (.iload 4, 2) := by decide +kernel
theorem dX4_readItem_32 : decode cX4_readItem 32 = .ok (.invokevirtual 37, 3) := by decide +kernel
theorem dX4_readItem_35 : decode cX4_readItem 35 = .ok (.ifCond .eq 19, 3) := by decide +kernel
theorem dX4_readItem_38 : decode cX4_readItem 38 = .ok (.aload_n 3, 1) := by decide +kernel
theorem dX4_readItem_39 : decode cX4_readItem 39 = .ok (.aload_n 0, 1) := by decide +kernel
theorem dX4_readItem_40 : decode cX4_readItem 40 = .ok (.getfield 15, 3) := by decide +kernel
theorem dX4_readItem_43 : decode cX4_readItem 43 = .ok (.aload_n 0, 1) := by decide +kernel
theorem dX4_readItem_44 : decode cX4_readItem 44 = .ok (.iload 4, 2) := by decide +kernel
theorem dX4_readItem_46 : decode cX4_readItem 46 = .ok (.iload_n 2, 1) := by decide +kernel
theorem dX4_readItem_47 : decode cX4_readItem 47 = .ok (.invokevirtual 46, 3) := by decide +kernel
theorem dX4_readItem_50 : decode cX4_readItem 50 = .ok (.invokevirtual 50, 3) := by decide +kernel
theorem dX4_readItem_53 : decode cX4_readItem 53 = .ok (.ireturn, 1) := by decide +kernel
theorem dX4_readItem_54 : decode cX4_readItem 54 = .ok (.aload_n 0, 1) := by decide +kernel
theorem dX4_readItem_55 : decode cX4_readItem 55 = .ok (.ldc 54, 2) := by decide +kernel
theorem dX4_readItem_57 : decode cX4_readItem 57 = .ok (.iload_n 1, 1) := by decide +kernel
theorem dX4_readItem_58 : decode cX4_readItem 58 = .ok (.iload 4, 2) := by decide +kernel
theorem dX4_readItem_60 : decode cX4_readItem 60 = .ok (.invokevirtual 37, 3) := by decide +kernel
theorem dX4_readItem_63 : decode cX4_readItem 63 = .ok (.ifCond .eq 19, 3) := by decide +kernel
theorem dX4_readItem_66 : decode cX4_readItem 66 = .ok (.aload_n 3, 1) := by decide +kernel
theorem dX4_readItem_67 : decode cX4_readItem 67 = .ok (.aload_n 0, 1) := by decide +kernel
theorem dX4_readItem_68 : decode cX4_readItem 68 = .ok (.getfield 15, 3) := by decide +kernel
theorem dX4_readItem_71 : decode cX4_readItem 71 = .ok (.aload_n 0, 1) := by decide +kernel
theorem dX4_readItem_72 : decode cX4_readItem 72 = .ok (.iload 4, 2) := by decide +kernel
theorem dX4_readItem_74 : decode cX4_readItem 74 = .ok (.iload_n 2, 1) := by decide +kernel
theorem dX4_readItem_75 : decode cX4_readItem 75 = .ok (.invokevirtual 46, 3) := by decide +kernel
theorem dX4_readItem_78 : decode cX4_readItem 78 = .ok (.invokevirtual 56, 3) := by decide +kernel
theorem dX4_readItem_81 : decode cX4_readItem 81 = .ok (.ireturn, 1) := by decide +kernel
theorem dX4_readItem_82 : decode cX4_readItem 82 = .ok (.aload_n 0, 1) := by decide +kernel
theorem dX4_readItem_83 : decode cX4_readItem 83 = .ok (.ldc 59, 2) := by decide +kernel
theorem dX4_readItem_85 : decode cX4_readItem 85 = .ok (.iload_n 1, 1) := by decide +kernel
theorem dX4_readItem_86 : decode cX4_readItem 86 = .ok (.iload 4, 2) := by decide +kernel
theorem dX4_readItem_88 : decode cX4_readItem 88 = .ok (.invokevirtual 37, 3) := by decide +kernel
theorem dX4_readItem_91 : decode cX4_readItem 91 = .ok (.ifCond .eq 19, 3) := by decide +kernel
theorem dX4_readItem_94 : decode cX4_readItem 94 = .ok (.aload_n 3, 1) := by decide +kernel
theorem dX4_readItem_95 : decode cX4_readItem 95 = .ok (.aload_n 0, 1) := by decide +kernel
theorem dX4_readItem_96 : decode cX4_readItem 96 = .ok (.getfield 15, 3) := by decide +kernel
theorem dX4_readItem_99 : decode cX4_readItem 99 = .ok (.aload_n 0, 1) := by decide +kernel
theorem dX4_readItem_100 : decode cX4_readItem 100 = .ok (.iload 4, 2) := by decide +kernel
theorem dX4_readItem_102 : decode cX4_readItem 102 = .ok (.iload_n 2, 1) := by decide +kernel
theorem dX4_readItem_103 : decode cX4_readItem 103 = .ok (.invokevirtual 46, 3) := by decide +kernel
theorem dX4_readItem_106 : decode cX4_readItem 106 = .ok (.invokevirtual 61, 3) := by decide +kernel
theorem dX4_readItem_109 : decode cX4_readItem 109 = .ok (.ireturn, 1) := by decide +kernel
theorem dX4_readItem_110 : decode cX4_readItem 110 = .ok (.iconst 0, 1) := by decide +kernel
theorem dX4_readItem_111 : decode cX4_readItem 111 = .ok (.ireturn, 1) := by decide +kernel
theorem dX4_readMode_0 : decode cX4_readMode 0 = .ok (.aload_n 0, 1) := by decide +kernel
theorem dX4_readMode_1 : decode cX4_readMode 1 = .ok (.ldc 64, 2) := by decide +kernel
theorem dX4_readMode_3 : decode cX4_readMode 3 = .ok (.iload_n 1, 1) := by decide +kernel
theorem dX4_readMode_4 : decode cX4_readMode 4 = .ok (.iload_n 2, 1) := by decide +kernel
theorem dX4_readMode_5 : decode cX4_readMode 5 = .ok (.invokevirtual 37, 3) := by decide +kernel
theorem dX4_readMode_8 : decode cX4_readMode 8 = .ok (.ifCond .eq 11, 3) := by decide +kernel
theorem dX4_readMode_11 : decode cX4_readMode 11 = .ok (.aload_n 3, 1) := by decide +kernel
theorem dX4_readMode_12 : decode cX4_readMode 12 = .ok (.iconst 0, 1) := by decide +kernel
theorem dX4_readMode_13 : decode cX4_readMode 13 = .ok (.putfield 66, 3) := by decide +kernel
theorem dX4_readMode_16 : decode cX4_readMode 16 = .ok (.goto 43, 3) := by decide +kernel
theorem dX4_readMode_19 : decode cX4_readMode 19 = .ok (.aload_n 0, 1) := by decide +kernel
theorem dX4_readMode_20 : decode cX4_readMode 20 = .ok (.ldc 69, 2) := by decide +kernel
theorem dX4_readMode_22 : decode cX4_readMode 22 = .ok (.iload_n 1, 1) := by decide +kernel
theorem dX4_readMode_23 : decode cX4_readMode 23 = .ok (.iload_n 2, 1) := by decide +kernel
theorem dX4_readMode_24 : decode cX4_readMode 24 = .ok (.invokevirtual 37, 3) := by decide +kernel
theorem dX4_readMode_27 : decode cX4_readMode 27 = .ok (.ifCond .eq 11, 3) := by decide +kernel
theorem dX4_readMode_30 : decode cX4_readMode 30 = .ok (.aload_n 3, 1) := by decide +kernel
theorem dX4_readMode_31 : decode cX4_readMode 31 = .ok (.iconst 1, 1) := by decide +kernel
theorem dX4_readMode_32 : decode cX4_readMode 32 = .ok (.putfield 66, 3) := by decide +kernel
theorem dX4_readMode_35 : decode cX4_readMode 35 = .ok (.goto 24, 3) := by decide +kernel
theorem dX4_readMode_38 : decode cX4_readMode 38 = .ok (.aload_n 0, 1) := by decide +kernel
theorem dX4_readMode_39 : decode cX4_readMode 39 = .ok (.ldc 71, 2) := by decide +kernel
theorem dX4_readMode_41 : decode cX4_readMode 41 = .ok (.iload_n 1, 1) := by decide +kernel
theorem dX4_readMode_42 : decode cX4_readMode 42 = .ok (.iload_n 2, 1) := by decide +kernel
theorem dX4_readMode_43 : decode cX4_readMode 43 = .ok (.invokevirtual 37, 3) := by decide +kernel
theorem dX4_readMode_46 : decode cX4_readMode 46 = .ok (.ifCond .eq 11, 3) := by decide +kernel
theorem dX4_readMode_49 : decode cX4_readMode 49 = .ok (.aload_n 3, 1) := by decide +kernel
theorem dX4_readMode_50 : decode cX4_readMode 50 = .ok (.iconst 2, 1) := by decide +kernel
theorem dX4_readMode_51 : decode cX4_readMode 51 = .ok (.putfield 66, 3) := by decide +kernel
theorem dX4_readMode_54 : decode cX4_readMode 54 = .ok (.goto 5, 3) := by decide +kernel
theorem dX4_readMode_57 : decode cX4_readMode 57 = .ok (.iconst 0, 1) := by decide +kernel
theorem dX4_readMode_58 : decode cX4_readMode 58 = .ok (.ireturn, 1) := by decide +kernel
theorem dX4_readMode_59 : decode cX4_readMode 59 = .ok (.iconst 1, 1) := by decide +kernel
theorem dX4_readMode_60 : decode cX4_readMode 60 = .ok (.ireturn, 1) := by decide +kernel
theorem dX4_stands_0 : decode cX4_stands 0 = .ok (.iload_n 2, 1) := by decide +kernel
theorem dX4_stands_1 : decode cX4_stands 1 = .ok (.ifCond .lt 21, 3) := by decide +kernel
theorem dX4_stands_4 : decode cX4_stands 4 = .ok (.iload_n 3, 1) := by decide +kernel
theorem dX4_stands_5 : decode cX4_stands 5 = .ok (.aload_n 0, 1) := by decide +kernel
theorem dX4_stands_6 : decode cX4_stands 6 = .ok (.getfield 18, 3) := by decide +kernel
theorem dX4_stands_9 : decode cX4_stands 9 = .ok (.if_icmp .gt 13, 3) := by decide +kernel
theorem dX4_stands_12 : decode cX4_stands 12 = .ok (.iload_n 3, 1) := by decide +kernel
theorem dX4_stands_13 : decode cX4_stands 13 = .ok (.iload_n 2, 1) := by decide +kernel
theorem dX4_stands_14 : decode cX4_stands 14 = .ok (.isub, 1) := by decide +kernel
theorem dX4_stands_15 : decode cX4_stands 15 = .ok (.aload_n 1, 1) := by decide +kernel
theorem dX4_stands_16 : decode cX4_stands 16 = .ok (.invokevirtual 73, 3) := by decide +kernel
theorem dX4_stands_19 : decode cX4_stands 19 = .ok (.if_icmp .eq 5, 3) := by decide +kernel
theorem dX4_stands_22 : decode cX4_stands 22 = .ok (.iconst 0, 1) := by decide +kernel
theorem dX4_stands_23 : decode cX4_stands 23 = .ok (.ireturn, 1) := by decide +kernel
theorem dX4_stands_24 : decode cX4_stands 24 = .ok (.iconst 0, 1) := by decide +kernel
theorem dX4_stands_25 : decode cX4_stands 25 = .ok (.istore 4, 2) := by decide +kernel
theorem dX4_stands_27 : decode cX4_stands 27 = .ok (.iload 4, 2) := by decide +kernel
theorem dX4_stands_29 : decode cX4_stands 29 = .ok (.aload_n 1, 1) := by decide +kernel
theorem dX4_stands_30 : decode cX4_stands 30 = .ok (.invokevirtual 73, 3) := by decide +kernel
theorem dX4_stands_33 : decode cX4_stands 33 = .ok (.if_icmp .ge 29, 3) := by decide +kernel
theorem dX4_stands_36 : decode cX4_stands 36 = .ok (.aload_n 0, 1) := by decide +kernel
theorem dX4_stands_37 : decode cX4_stands 37 = .ok (.getfield 9, 3) := by decide +kernel
theorem dX4_stands_40 : decode cX4_stands 40 = .ok (.iload_n 2, 1) := by decide +kernel
theorem dX4_stands_41 : decode cX4_stands 41 = .ok (.iload 4, 2) := by decide +kernel
theorem dX4_stands_43 : decode cX4_stands 43 = .ok (.iadd, 1) := by decide +kernel
theorem dX4_stands_44 : decode cX4_stands 44 = .ok (.iaload, 1) := by decide +kernel
theorem dX4_stands_45 : decode cX4_stands 45 = .ok (.aload_n 1, 1) := by decide +kernel
theorem dX4_stands_46 : decode cX4_stands 46 = .ok (.iload 4, 2) := by decide +kernel
theorem dX4_stands_48 : decode cX4_stands 48 = .ok (.invokevirtual 78, 3) := by decide +kernel
theorem dX4_stands_51 : decode cX4_stands 51 = .ok (.if_icmp .eq 5, 3) := by decide +kernel
theorem dX4_stands_54 : decode cX4_stands 54 = .ok (.iconst 0, 1) := by decide +kernel
theorem dX4_stands_55 : decode cX4_stands 55 = .ok (.ireturn, 1) := by decide +kernel
theorem dX4_stands_56 : decode cX4_stands 56 = .ok (.iinc 4 1, 3) := by decide +kernel
theorem dX4_stands_59 : decode cX4_stands 59 = .ok (.goto (-32), 3) := by decide +kernel
theorem dX4_stands_62 : decode cX4_stands 62 = .ok (.iconst 1, 1) := by decide +kernel
theorem dX4_stands_63 : decode cX4_stands 63 = .ok (.ireturn, 1) := by decide +kernel
theorem dX4_readNumbers_0 : decode cX4_readNumbers 0 = .ok (.iconst 0, 1) := by decide +kernel
theorem dX4_readNumbers_1 : decode cX4_readNumbers 1 = .ok (.istore_n 3, 1) := by decide +kernel
theorem dX4_readNumbers_2 : decode cX4_readNumbers 2 = .ok (.iconst 0, 1) := by decide +kernel
theorem dX4_readNumbers_3 : decode cX4_readNumbers 3 = .ok (.istore 4, 2) := by decide +kernel
theorem dX4_readNumbers_5 : decode cX4_readNumbers 5 = .ok (.iconst 0, 1) := by decide +kernel
theorem dX4_readNumbers_6 : decode cX4_readNumbers 6 = .ok (.istore 5, 2) := by decide +kernel
theorem dX4_readNumbers_8 : decode cX4_readNumbers 8 = .ok (.iload_n 1, 1) := by decide +kernel
theorem dX4_readNumbers_9 : decode cX4_readNumbers 9 = .ok (.istore 6, 2) := by decide +kernel
theorem dX4_readNumbers_11 : decode cX4_readNumbers 11 = .ok (.iload 6, 2) := by decide +kernel
theorem dX4_readNumbers_13 : decode cX4_readNumbers 13 = .ok (.iload_n 2, 1) := by decide +kernel
theorem dX4_readNumbers_14 : decode cX4_readNumbers 14 = .ok (.if_icmp .gt 114, 3) := by decide +kernel
theorem dX4_readNumbers_17 : decode cX4_readNumbers 17 = .ok (.iload 6, 2) := by decide +kernel
theorem dX4_readNumbers_19 : decode cX4_readNumbers 19 = .ok (.aload_n 0, 1) := by decide +kernel
theorem dX4_readNumbers_20 : decode cX4_readNumbers 20 = .ok (.getfield 18, 3) := by decide +kernel
theorem dX4_readNumbers_23 : decode cX4_readNumbers 23 = .ok (.if_icmp .ge 105, 3) := by decide +kernel
theorem dX4_readNumbers_26 : decode cX4_readNumbers 26 = .ok (.aload_n 0, 1) := by decide +kernel
theorem dX4_readNumbers_27 : decode cX4_readNumbers 27 = .ok (.getfield 9, 3) := by decide +kernel
theorem dX4_readNumbers_30 : decode cX4_readNumbers 30 = .ok (.iload 6, 2) := by decide +kernel
theorem dX4_readNumbers_32 : decode cX4_readNumbers 32 = .ok (.iaload, 1) := by decide +kernel
theorem dX4_readNumbers_33 : decode cX4_readNumbers 33 = .ok (.istore 7, 2) := by decide +kernel
theorem dX4_readNumbers_35 : decode cX4_readNumbers 35 = .ok (.iload 7, 2) := by decide +kernel
theorem dX4_readNumbers_37 : decode cX4_readNumbers 37 = .ok (.bipush 48, 2) := by decide +kernel
theorem dX4_readNumbers_39 : decode cX4_readNumbers 39 = .ok (.if_icmp .lt 35, 3) := by decide +kernel
theorem dX4_readNumbers_42 : decode cX4_readNumbers 42 = .ok (.iload 7, 2) := by decide +kernel
theorem dX4_readNumbers_44 : decode cX4_readNumbers 44 = .ok (.bipush 57, 2) := by decide +kernel
theorem dX4_readNumbers_46 : decode cX4_readNumbers 46 = .ok (.if_icmp .gt 28, 3) := by decide +kernel
theorem dX4_readNumbers_49 : decode cX4_readNumbers 49 = .ok (.iload 4, 2) := by decide +kernel
theorem dX4_readNumbers_51 : decode cX4_readNumbers 51 = .ok (.iconst 2, 1) := by decide +kernel
theorem dX4_readNumbers_52 : decode cX4_readNumbers 52 = .ok (.if_icmp .ge 22, 3) := by decide +kernel
theorem dX4_readNumbers_55 : decode cX4_readNumbers 55 = .ok (.iload 5, 2) := by decide +kernel
theorem dX4_readNumbers_57 : decode cX4_readNumbers 57 = .ok (.bipush 10, 2) := by decide +kernel
theorem dX4_readNumbers_59 : decode cX4_readNumbers 59 = .ok (.imul, 1) := by decide +kernel
theorem dX4_readNumbers_60 : decode cX4_readNumbers 60 = .ok (.iload 7, 2) := by decide +kernel
theorem dX4_readNumbers_62 : decode cX4_readNumbers 62 = .ok (.iadd, 1) := by decide +kernel
theorem dX4_readNumbers_63 : decode cX4_readNumbers 63 = .ok (.bipush 48, 2) := by decide +kernel
theorem dX4_readNumbers_65 : decode cX4_readNumbers 65 = .ok (.isub, 1) := by decide +kernel
theorem dX4_readNumbers_66 : decode cX4_readNumbers 66 = .ok (.istore 5, 2) := by decide +kernel
theorem dX4_readNumbers_68 : decode cX4_readNumbers 68 = .ok (.iinc 4 1, 3) := by decide +kernel
theorem dX4_readNumbers_71 : decode cX4_readNumbers 71 = .ok (.goto 51, 3) := by decide +kernel
theorem dX4_readNumbers_74 : decode cX4_readNumbers 74 = .ok (.iload 7, 2) := by decide +kernel
theorem dX4_readNumbers_76 : decode cX4_readNumbers 76 = .ok (.bipush 44, 2) := by decide +kernel
theorem dX4_readNumbers_78 : decode cX4_readNumbers 78 = .ok (.if_icmp .eq 10, 3) := by decide +kernel
theorem dX4_readNumbers_81 : decode cX4_readNumbers 81 = .ok (.iload 7, 2) := by decide +kernel
theorem dX4_readNumbers_83 : decode cX4_readNumbers 83 = .ok (.bipush 59, 2) := by decide +kernel
theorem dX4_readNumbers_85 : decode cX4_readNumbers 85 = .ok (.if_icmp .ne 34, 3) := by decide +kernel
theorem dX4_readNumbers_88 : decode cX4_readNumbers 88 = .ok (.iload 4, 2) := by decide +kernel
theorem dX4_readNumbers_90 : decode cX4_readNumbers 90 = .ok (.ifCond .le 29, 3) := by decide +kernel
theorem dX4_readNumbers_93 : decode cX4_readNumbers 93 = .ok (.iload_n 3, 1) := by decide +kernel
theorem dX4_readNumbers_94 : decode cX4_readNumbers 94 = .ok (.bipush 48, 2) := by decide +kernel
theorem dX4_readNumbers_96 : decode cX4_readNumbers 96 = .ok (.if_icmp .ge 23, 3) := by decide +kernel
theorem dX4_readNumbers_99 : decode cX4_readNumbers 99 = .ok (.aload_n 0, 1) := by decide +kernel
theorem dX4_readNumbers_100 : decode cX4_readNumbers 100 = .ok (.getfield 15, 3) := by decide +kernel
theorem dX4_readNumbers_103 : decode cX4_readNumbers 103 = .ok (.iload_n 3, 1) := by decide +kernel
theorem dX4_readNumbers_104 : decode cX4_readNumbers 104 = .ok (.iload 5, 2) := by decide +kernel
theorem dX4_readNumbers_106 : decode cX4_readNumbers 106 = .ok (.iastore, 1) := by decide +kernel
theorem dX4_readNumbers_107 : decode cX4_readNumbers 107 = .ok (.iinc 3 1, 3) := by decide +kernel
theorem dX4_readNumbers_110 : decode cX4_readNumbers 110 = .ok (.iconst 0, 1) := by decide +kernel
theorem dX4_readNumbers_111 : decode cX4_readNumbers 111 = .ok (.istore 4, 2) := by decide +kernel
theorem dX4_readNumbers_113 : decode cX4_readNumbers 113 = .ok (.iconst 0, 1) := by decide +kernel
theorem dX4_readNumbers_114 : decode cX4_readNumbers 114 = .ok (.istore 5, 2) := by decide +kernel
theorem dX4_readNumbers_116 : decode cX4_readNumbers 116 = .ok (.goto 6, 3) := by decide +kernel
theorem dX4_readNumbers_119 : decode cX4_readNumbers 119 = .ok (.bipush (-4), 2) := by decide +kernel
theorem dX4_readNumbers_121 : decode cX4_readNumbers 121 = .ok (.ireturn, 1) := by decide +kernel
theorem dX4_readNumbers_122 : decode cX4_readNumbers 122 = .ok (.iinc 6 1, 3) := by decide +kernel
theorem dX4_readNumbers_125 : decode cX4_readNumbers 125 = .ok (.goto (-114), 3) := by decide +kernel
theorem dX4_readNumbers_128 : decode cX4_readNumbers 128 = .ok (.iload_n 3, 1) := by decide +kernel
theorem dX4_readNumbers_129 : decode cX4_readNumbers 129 = .ok (.ireturn, 1) := by decide +kernel
theorem dX5_init_0 : decode cX5_init 0 = .ok (.aload_n 0, 1) := by decide +kernel
theorem dX5_init_1 : decode cX5_init 1 = .ok (.invokespecial 3, 3) := by decide +kernel
theorem dX5_init_4 : decode cX5_init 4 = .ok (.aload_n 0, 1) := by decide +kernel
theorem dX5_init_5 : decode cX5_init 5 = .ok (.bipush 48, 2) := by decide +kernel
theorem dX5_init_7 : decode cX5_init 7 = .ok (.newarray .int, 2) := by decide +kernel
theorem dX5_init_9 : decode cX5_init 9 = .ok (.putfield 9, 3) := by decide +kernel
theorem dX5_init_12 : decode cX5_init 12 = .ok (.aload_n 0, 1) := by decide +kernel
theorem dX5_init_13 : decode cX5_init 13 = .ok (.getstatic 15, 3) := by decide +kernel
theorem dX5_init_16 : decode cX5_init 16 = .ok (.arraylength, 1) := by decide +kernel
theorem dX5_init_17 : decode cX5_init 17 = .ok (.newarray .int, 2) := by decide +kernel
theorem dX5_init_19 : decode cX5_init 19 = .ok (.putfield 18, 3) := by decide +kernel
theorem dX5_init_22 : decode cX5_init 22 = .ok (.aload_n 0, 1) := by decide +kernel
theorem dX5_init_23 : decode cX5_init 23 = .ok (.bipush 8, 2) := by decide +kernel
theorem dX5_init_25 : decode cX5_init 25 = .ok (.newarray .int, 2) := by decide +kernel
theorem dX5_init_27 : decode cX5_init 27 = .ok (.putfield 21, 3) := by decide +kernel
theorem dX5_init_30 : decode cX5_init 30 = .ok (.return_, 1) := by decide +kernel
theorem dX5_startAnew_0 : decode cX5_startAnew 0 = .ok (.aload_n 0, 1) := by decide +kernel
theorem dX5_startAnew_1 : decode cX5_startAnew 1 = .ok (.iconst 0, 1) := by decide +kernel
theorem dX5_startAnew_2 : decode cX5_startAnew 2 = .ok (.putfield 24, 3) := by decide +kernel
theorem dX5_startAnew_5 : decode cX5_startAnew 5 = .ok (.aload_n 0, 1) := by decide +kernel
theorem dX5_startAnew_6 : decode cX5_startAnew 6 = .ok (.iconst 0, 1) := by decide +kernel
theorem dX5_startAnew_7 : decode cX5_startAnew 7 = .ok (.putfield 28, 3) := by decide +kernel
theorem dX5_startAnew_10 : decode cX5_startAnew 10 = .ok (.getstatic 15, 3) := by decide +kernel
theorem dX5_startAnew_13 : decode cX5_startAnew 13 = .ok (.iconst 0, 1) := by decide +kernel
theorem dX5_startAnew_14 : decode cX5_startAnew 14 = .ok (.aload_n 0, 1) := by decide +kernel
theorem dX5_startAnew_15 : decode cX5_startAnew 15 = .ok (.getfield 18, 3) := by decide +kernel
theorem dX5_startAnew_18 : decode cX5_startAnew 18 = .ok (.iconst 0, 1) := by decide +kernel
theorem dX5_startAnew_19 : decode cX5_startAnew 19 = .ok (.getstatic 15, 3) := by decide +kernel
theorem dX5_startAnew_22 : decode cX5_startAnew 22 = .ok (.arraylength, 1) := by decide +kernel
theorem dX5_startAnew_23 : decode cX5_startAnew 23 = .ok (.invokestatic 31, 3) := by decide +kernel
theorem dX5_startAnew_26 : decode cX5_startAnew 26 = .ok (.getstatic 37, 3) := by decide +kernel
theorem dX5_startAnew_29 : decode cX5_startAnew 29 = .ok (.iconst 0, 1) := by decide +kernel
theorem dX5_startAnew_30 : decode cX5_startAnew 30 = .ok (.aload_n 0, 1) := by decide +kernel
theorem dX5_startAnew_31 : decode cX5_startAnew 31 = .ok (.getfield 21, 3) := by decide +kernel
theorem dX5_startAnew_34 : decode cX5_startAnew 34 = .ok (.iconst 0, 1) := by decide +kernel
theorem dX5_startAnew_35 : decode cX5_startAnew 35 = .ok (.bipush 8, 2) := by decide +kernel
theorem dX5_startAnew_37 : decode cX5_startAnew 37 = .ok (.invokestatic 31, 3) := by decide +kernel
theorem dX5_startAnew_40 : decode cX5_startAnew 40 = .ok (.return_, 1) := by decide +kernel
theorem dX5_addCells_0 : decode cX5_addCells 0 = .ok (.iload_n 2, 1) := by decide +kernel
theorem dX5_addCells_1 : decode cX5_addCells 1 = .ok (.iconst 1, 1) := by decide +kernel
theorem dX5_addCells_2 : decode cX5_addCells 2 = .ok (.if_icmp .lt 20, 3) := by decide +kernel
theorem dX5_addCells_5 : decode cX5_addCells 5 = .ok (.iload_n 2, 1) := by decide +kernel
theorem dX5_addCells_6 : decode cX5_addCells 6 = .ok (.aload_n 1, 1) := by decide +kernel
theorem dX5_addCells_7 : decode cX5_addCells 7 = .ok (.arraylength, 1) := by decide +kernel
theorem dX5_addCells_8 : decode cX5_addCells 8 = .ok (.if_icmp .gt 14, 3) := by decide +kernel
theorem dX5_addCells_11 : decode cX5_addCells 11 = .ok (.aload_n 0, 1) := by decide +kernel
theorem dX5_addCells_12 : decode cX5_addCells 12 = .ok (.getfield 24, 3) := by decide +kernel
theorem dX5_addCells_15 : decode cX5_addCells 15 = .ok (.iload_n 2, 1) := by decide +kernel
theorem dX5_addCells_16 : decode cX5_addCells 16 = .ok (.iadd, 1) := by decide +kernel
theorem dX5_addCells_17 : decode cX5_addCells 17 = .ok (.bipush 48, 2) := by decide +kernel
theorem dX5_addCells_19 : decode cX5_addCells 19 = .ok (.if_icmp .le 5, 3) := by decide +kernel
theorem dX5_addCells_22 : decode cX5_addCells 22 = .ok (.iconst 0, 1) := by decide +kernel
theorem dX5_addCells_23 : decode cX5_addCells 23 = .ok (.ireturn, 1) := by decide +kernel
theorem dX5_addCells_24 : decode cX5_addCells 24 = .ok (.aload_n 1, 1) := by decide +kernel
theorem dX5_addCells_25 : decode cX5_addCells 25 = .ok (.iconst 0, 1) := by decide +kernel
theorem dX5_addCells_26 : decode cX5_addCells 26 = .ok (.aload_n 0, 1) := by decide +kernel
theorem dX5_addCells_27 : decode cX5_addCells 27 = .ok (.getfield 9, 3) := by decide +kernel
theorem dX5_addCells_30 : decode cX5_addCells 30 = .ok (.aload_n 0, 1) := by decide +kernel
theorem dX5_addCells_31 : decode cX5_addCells 31 = .ok (.getfield 24, 3) := by decide +kernel
theorem dX5_addCells_34 : decode cX5_addCells 34 = .ok (.iload_n 2, 1) := by decide +kernel
theorem dX5_addCells_35 : decode cX5_addCells 35 = .ok (.invokestatic 31, 3) := by decide +kernel
theorem dX5_addCells_38 : decode cX5_addCells 38 = .ok (.aload_n 0, 1) := by decide +kernel
theorem dX5_addCells_39 : decode cX5_addCells 39 = .ok (.dup, 1) := by decide +kernel
theorem dX5_addCells_40 : decode cX5_addCells 40 = .ok (.getfield 24, 3) := by decide +kernel
theorem dX5_addCells_43 : decode cX5_addCells 43 = .ok (.iload_n 2, 1) := by decide +kernel
theorem dX5_addCells_44 : decode cX5_addCells 44 = .ok (.iadd, 1) := by decide +kernel
theorem dX5_addCells_45 : decode cX5_addCells 45 = .ok (.putfield 24, 3) := by decide +kernel
theorem dX5_addCells_48 : decode cX5_addCells 48 = .ok (.iconst 1, 1) := by decide +kernel
theorem dX5_addCells_49 : decode cX5_addCells 49 = .ok (.ireturn, 1) := by decide +kernel
theorem dX5_setLookTo_0 : decode cX5_setLookTo 0 = .ok (.iload_n 2, 1) := by decide +kernel
theorem dX5_setLookTo_1 : decode cX5_setLookTo 1 = .ok (.aload_n 0, 1) := by decide +kernel
theorem dX5_setLookTo_2 : decode cX5_setLookTo 2 = .ok (.getfield 18, 3) := by decide +kernel
theorem dX5_setLookTo_5 : decode cX5_setLookTo 5 = .ok (.arraylength, 1) := by decide +kernel
theorem dX5_setLookTo_6 : decode cX5_setLookTo 6 = .ok (.if_icmp .ne 9, 3) := by decide +kernel
theorem dX5_setLookTo_9 : decode cX5_setLookTo 9 = .ok (.iload_n 2, 1) := by decide +kernel
theorem dX5_setLookTo_10 : decode cX5_setLookTo 10 = .ok (.aload_n 1, 1) := by decide +kernel
theorem dX5_setLookTo_11 : decode cX5_setLookTo 11 = .ok (.arraylength, 1) := by decide +kernel
theorem dX5_setLookTo_12 : decode cX5_setLookTo 12 = .ok (.if_icmp .le 5, 3) := by decide +kernel
theorem dX5_setLookTo_15 : decode cX5_setLookTo 15 = .ok (.iconst 0, 1) := by decide +kernel
theorem dX5_setLookTo_16 : decode cX5_setLookTo 16 = .ok (.ireturn, 1) := by decide +kernel
theorem dX5_setLookTo_17 : decode cX5_setLookTo 17 = .ok (.iconst 0, 1) := by decide +kernel
theorem dX5_setLookTo_18 : decode cX5_setLookTo 18 = .ok (.istore_n 3, 1) := by decide +kernel
theorem dX5_setLookTo_19 : decode cX5_setLookTo 19 = .ok (.iload_n 3, 1) := by decide +kernel
theorem dX5_setLookTo_20 : decode cX5_setLookTo 20 = .ok (.iload_n 2, 1) := by decide +kernel
theorem dX5_setLookTo_21 : decode cX5_setLookTo 21 = .ok (.if_icmp .ge 21, 3) := by decide +kernel
theorem dX5_setLookTo_24 : decode cX5_setLookTo 24 = .ok (.iload_n 3, 1) := by decide +kernel
theorem dX5_setLookTo_25 : decode cX5_setLookTo 25 = .ok (.aload_n 1, 1) := by decide +kernel
theorem dX5_setLookTo_26 : decode cX5_setLookTo 26 = .ok (.iload_n 3, 1) := by decide +kernel
theorem dX5_setLookTo_27 : decode cX5_setLookTo 27 = .ok (.iaload, 1) := by decide +kernel
theorem dX5_setLookTo_28 : decode cX5_setLookTo 28 = .ok (.invokestatic 40, 3) := by decide +kernel
theorem dX5_setLookTo_31 : decode cX5_setLookTo 31 = .ok (.ifCond .ne 5, 3) := by decide +kernel
theorem dX5_setLookTo_34 : decode cX5_setLookTo 34 = .ok (.iconst 0, 1) := by decide +kernel
theorem dX5_setLookTo_35 : decode cX5_setLookTo 35 = .ok (.ireturn, 1) := by decide +kernel
theorem dX5_setLookTo_36 : decode cX5_setLookTo 36 = .ok (.iinc 3 1, 3) := by decide +kernel
theorem dX5_setLookTo_39 : decode cX5_setLookTo 39 = .ok (.goto (-20), 3) := by decide +kernel
theorem dX5_setLookTo_42 : decode cX5_setLookTo 42 = .ok (.aload_n 1, 1) := by decide +kernel
theorem dX5_setLookTo_43 : decode cX5_setLookTo 43 = .ok (.iconst 0, 1) := by decide +kernel
theorem dX5_setLookTo_44 : decode cX5_setLookTo 44 = .ok (.aload_n 0, 1) := by decide +kernel
theorem dX5_setLookTo_45 : decode cX5_setLookTo 45 = .ok (.getfield 18, 3) := by decide +kernel
theorem dX5_setLookTo_48 : decode cX5_setLookTo 48 = .ok (.iconst 0, 1) := by decide +kernel
theorem dX5_setLookTo_49 : decode cX5_setLookTo 49 = .ok (.iload_n 2, 1) := by decide +kernel
theorem dX5_setLookTo_50 : decode cX5_setLookTo 50 = .ok (.invokestatic 31, 3) := by decide +kernel
theorem dX5_setLookTo_53 : decode cX5_setLookTo 53 = .ok (.iconst 1, 1) := by decide +kernel
theorem dX5_setLookTo_54 : decode cX5_setLookTo 54 = .ok (.ireturn, 1) := by decide +kernel
theorem dX5_setWeightsTo_0 : decode cX5_setWeightsTo 0 = .ok (.iload_n 2, 1) := by decide +kernel
theorem dX5_setWeightsTo_1 : decode cX5_setWeightsTo 1 = .ok (.iconst 2, 1) := by decide +kernel
theorem dX5_setWeightsTo_2 : decode cX5_setWeightsTo 2 = .ok (.if_icmp .lt 15, 3) := by decide +kernel
theorem dX5_setWeightsTo_5 : decode cX5_setWeightsTo 5 = .ok (.iload_n 2, 1) := by decide +kernel
theorem dX5_setWeightsTo_6 : decode cX5_setWeightsTo 6 = .ok (.bipush 8, 2) := by decide +kernel
theorem dX5_setWeightsTo_8 : decode cX5_setWeightsTo 8 = .ok (.if_icmp .gt 9, 3) := by decide +kernel
theorem dX5_setWeightsTo_11 : decode cX5_setWeightsTo 11 = .ok (.iload_n 2, 1) := by decide +kernel
theorem dX5_setWeightsTo_12 : decode cX5_setWeightsTo 12 = .ok (.aload_n 1, 1) := by decide +kernel
theorem dX5_setWeightsTo_13 : decode cX5_setWeightsTo 13 = .ok (.arraylength, 1) := by decide +kernel
theorem dX5_setWeightsTo_14 : decode cX5_setWeightsTo 14 = .ok (.if_icmp .le 5, 3) := by decide +kernel
theorem dX5_setWeightsTo_17 : decode cX5_setWeightsTo 17 = .ok (.iconst 0, 1) := by decide +kernel
theorem dX5_setWeightsTo_18 : decode cX5_setWeightsTo 18 = .ok (.ireturn, 1) := by decide +kernel
theorem dX5_setWeightsTo_19 : decode cX5_setWeightsTo 19 = .ok (.iconst 0, 1) := by decide +kernel
theorem dX5_setWeightsTo_20 : decode cX5_setWeightsTo 20 = .ok (.istore_n 3, 1) := by decide +kernel
theorem dX5_setWeightsTo_21 : decode cX5_setWeightsTo 21 = .ok (.iconst 0, 1) := by decide +kernel
theorem dX5_setWeightsTo_22 : decode cX5_setWeightsTo 22 = .ok (.istore 4, 2) := by decide +kernel
theorem dX5_setWeightsTo_24 : decode cX5_setWeightsTo 24 = .ok (.iload 4, 2) := by decide +kernel
theorem dX5_setWeightsTo_26 : decode cX5_setWeightsTo 26 = .ok (.iload_n 2, 1) := by decide +kernel
theorem dX5_setWeightsTo_27 : decode cX5_setWeightsTo 27 = .ok (.if_icmp .ge 16, 3) := by decide +kernel
theorem dX5_setWeightsTo_30 : decode cX5_setWeightsTo 30 = .ok (.iload_n 3, 1) := by decide +kernel
theorem dX5_setWeightsTo_31 : decode cX5_setWeightsTo 31 = .ok (.aload_n 1, 1) := by decide +kernel
theorem dX5_setWeightsTo_32 : decode cX5_setWeightsTo 32 = .ok (.iload 4, 2) := by decide +kernel
theorem dX5_setWeightsTo_34 : decode cX5_setWeightsTo 34 = .ok (.iaload, 1) := by decide +kernel
theorem dX5_setWeightsTo_35 : decode cX5_setWeightsTo 35 = .ok (.iadd, 1) := by decide +kernel
theorem dX5_setWeightsTo_36 : decode cX5_setWeightsTo 36 = .ok (.istore_n 3, 1) := by decide +kernel
theorem dX5_setWeightsTo_37 : decode cX5_setWeightsTo 37 = .ok (.iinc 4 1, 3) := by decide +kernel
theorem dX5_setWeightsTo_40 : decode cX5_setWeightsTo 40 = .ok (.goto (-16), 3) := by decide +kernel
theorem dX5_setWeightsTo_43 : decode cX5_setWeightsTo 43 = .ok (.iload_n 3, 1) := by decide +kernel
theorem dX5_setWeightsTo_44 : decode cX5_setWeightsTo 44 = .ok (.iconst 1, 1) := by decide +kernel
theorem dX5_setWeightsTo_45 : decode cX5_setWeightsTo 45 = .ok (.if_icmp .lt 9, 3) := by decide +kernel
theorem dX5_setWeightsTo_48 : decode cX5_setWeightsTo 48 = .ok (.iload_n 3, 1) := by decide +kernel
theorem dX5_setWeightsTo_49 : decode cX5_setWeightsTo 49 = .ok (.bipush 16, 2) := by decide +kernel
theorem dX5_setWeightsTo_51 : decode cX5_setWeightsTo 51 = .ok (.if_icmp .le 5, 3) := by decide +kernel
theorem dX5_setWeightsTo_54 : decode cX5_setWeightsTo 54 = .ok (.iconst 0, 1) := by decide +kernel
theorem dX5_setWeightsTo_55 : decode cX5_setWeightsTo 55 = .ok (.ireturn, 1) := by decide +kernel
theorem dX5_setWeightsTo_56 : decode cX5_setWeightsTo 56 = .ok (.aload_n 0, 1) := by decide +kernel
theorem dX5_setWeightsTo_57 : decode cX5_setWeightsTo 57 = .ok (.getfield 21, 3) := by decide +kernel
theorem dX5_setWeightsTo_60 : decode cX5_setWeightsTo 60 = .ok (.iconst 0, 1) := by decide +kernel
theorem dX5_setWeightsTo_61 : decode cX5_setWeightsTo 61 = .ok (.invokestatic 44, 3) := by decide +kernel
theorem dX5_setWeightsTo_64 : decode cX5_setWeightsTo 64 = .ok (.aload_n 1, 1) := by decide +kernel
theorem dX5_setWeightsTo_65 : decode cX5_setWeightsTo 65 = .ok (.iconst 0, 1) := by decide +kernel
theorem dX5_setWeightsTo_66 : decode cX5_setWeightsTo 66 = .ok (.aload_n 0, 1) := by decide +kernel
theorem dX5_setWeightsTo_67 : decode cX5_setWeightsTo 67 = .ok (.getfield 21, 3) := by decide +kernel
theorem dX5_setWeightsTo_70 : decode cX5_setWeightsTo 70 = .ok (.iconst 0, 1) := by decide +kernel
theorem dX5_setWeightsTo_71 : decode cX5_setWeightsTo 71 = .ok (.iload_n 2, 1) := by decide +kernel
theorem dX5_setWeightsTo_72 : decode cX5_setWeightsTo 72 = .ok (.invokestatic 31, 3) := by decide +kernel
theorem dX5_setWeightsTo_75 : decode cX5_setWeightsTo 75 = .ok (.iconst 1, 1) := by decide +kernel
theorem dX5_setWeightsTo_76 : decode cX5_setWeightsTo 76 = .ok (.ireturn, 1) := by decide +kernel
theorem dX6_init_0 : decode cX6_init 0 = .ok (.aload_n 0, 1) := by decide +kernel
theorem dX6_init_1 : decode cX6_init 1 = .ok (.invokespecial 1, 3) := by decide +kernel
theorem dX6_init_4 : decode cX6_init 4 = .ok (.aload_n 0, 1) := by decide +kernel
theorem dX6_init_5 : decode cX6_init 5 = .ok (.new 7, 3) := by decide +kernel
theorem dX6_init_8 : decode cX6_init 8 = .ok (.dup, 1) := by decide +kernel
theorem dX6_init_9 : decode cX6_init 9 = .ok (.invokespecial 9, 3) := by decide +kernel
theorem dX6_init_12 : decode cX6_init 12 = .ok (.putfield 10, 3) := by decide +kernel
theorem dX6_init_15 : decode cX6_init 15 = .ok (.aload_n 0, 1) := by decide +kernel
theorem dX6_init_16 : decode cX6_init 16 = .ok (.new 16, 3) := by decide +kernel
theorem dX6_init_19 : decode cX6_init 19 = .ok (.dup, 1) := by decide +kernel
theorem dX6_init_20 : decode cX6_init 20 = .ok (.invokespecial 18, 3) := by decide +kernel
theorem dX6_init_23 : decode cX6_init 23 = .ok (.putfield 19, 3) := by decide +kernel
theorem dX6_init_26 : decode cX6_init 26 = .ok (.aload_n 0, 1) := by decide +kernel
theorem dX6_init_27 : decode cX6_init 27 = .ok (.new 23, 3) := by decide +kernel
theorem dX6_init_30 : decode cX6_init 30 = .ok (.dup, 1) := by decide +kernel
theorem dX6_init_31 : decode cX6_init 31 = .ok (.invokespecial 25, 3) := by decide +kernel
theorem dX6_init_34 : decode cX6_init 34 = .ok (.putfield 26, 3) := by decide +kernel
theorem dX6_init_37 : decode cX6_init 37 = .ok (.aload_n 0, 1) := by decide +kernel
theorem dX6_init_38 : decode cX6_init 38 = .ok (.new 30, 3) := by decide +kernel
theorem dX6_init_41 : decode cX6_init 41 = .ok (.dup, 1) := by decide +kernel
theorem dX6_init_42 : decode cX6_init 42 = .ok (.invokespecial 32, 3) := by decide +kernel
theorem dX6_init_45 : decode cX6_init 45 = .ok (.putfield 33, 3) := by decide +kernel
theorem dX6_init_48 : decode cX6_init 48 = .ok (.aload_n 0, 1) := by decide +kernel
theorem dX6_init_49 : decode cX6_init 49 = .ok (.new 37, 3) := by decide +kernel
theorem dX6_init_52 : decode cX6_init 52 = .ok (.dup, 1) := by decide +kernel
theorem dX6_init_53 : decode cX6_init 53 = .ok (.invokespecial 39, 3) := by decide +kernel
theorem dX6_init_56 : decode cX6_init 56 = .ok (.putfield 40, 3) := by decide +kernel
theorem dX6_init_59 : decode cX6_init 59 = .ok (.aload_n 0, 1) := by decide +kernel
theorem dX6_init_60 : decode cX6_init 60 = .ok (.new 44, 3) := by decide +kernel
theorem dX6_init_63 : decode cX6_init 63 = .ok (.dup, 1) := by decide +kernel
theorem dX6_init_64 : decode cX6_init 64 = .ok (.invokespecial 46, 3) := by decide +kernel
theorem dX6_init_67 : decode cX6_init 67 = .ok (.putfield 47, 3) := by decide +kernel
theorem dX6_init_70 : decode cX6_init 70 = .ok (.aload_n 0, 1) := by decide +kernel
theorem dX6_init_71 : decode cX6_init 71 = .ok (.getfield 19, 3) := by decide +kernel
theorem dX6_init_74 : decode cX6_init 74 = .ok (.invokevirtual 51, 3) := by decide +kernel
theorem dX6_init_77 : decode cX6_init 77 = .ok (.aload_n 0, 1) := by decide +kernel
theorem dX6_init_78 : decode cX6_init 78 = .ok (.getfield 19, 3) := by decide +kernel
theorem dX6_init_81 : decode cX6_init 81 = .ok (.getstatic 54, 3) := by decide +kernel
theorem dX6_init_84 : decode cX6_init 84 = .ok (.getstatic 54, 3) := by decide +kernel
theorem dX6_init_87 : decode cX6_init 87 = .ok (.arraylength, 1) := by decide +kernel
theorem dX6_init_88 : decode cX6_init 88 = .ok (.invokevirtual 58, 3) := by decide +kernel
theorem dX6_init_91 : decode cX6_init 91 = .ok (.pop, 1) := by decide +kernel
theorem dX6_init_92 : decode cX6_init 92 = .ok (.aload_n 0, 1) := by decide +kernel
theorem dX6_init_93 : decode cX6_init 93 = .ok (.invokevirtual 62, 3) := by decide +kernel
theorem dX6_init_96 : decode cX6_init 96 = .ok (.return_, 1) := by decide +kernel
theorem dX6_write_0 : decode cX6_write 0 = .ok (.iload_n 1, 1) := by decide +kernel
theorem dX6_write_1 : decode cX6_write 1 = .ok (.bipush 32, 2) := by decide +kernel
theorem dX6_write_3 : decode cX6_write 3 = .ok (.if_icmp .lt 9, 3) := by decide +kernel
theorem dX6_write_6 : decode cX6_write 6 = .ok (.iload_n 1, 1) := by decide +kernel
theorem dX6_write_7 : decode cX6_write 7 = .ok (.bipush 126, 2) := by decide +kernel
theorem dX6_write_9 : decode cX6_write 9 = .ok (.if_icmp .le 5, 3) := by decide +kernel
theorem dX6_write_12 : decode cX6_write 12 = .ok (.iconst (-1), 1) := by decide +kernel
theorem dX6_write_13 : decode cX6_write 13 = .ok (.ireturn, 1) := by decide +kernel
theorem dX6_write_14 : decode cX6_write 14 = .ok (.aload_n 0, 1) := by decide +kernel
theorem dX6_write_15 : decode cX6_write 15 = .ok (.getfield 10, 3) := by decide +kernel
theorem dX6_write_18 : decode cX6_write 18 = .ok (.getfield 65, 3) := by decide +kernel
theorem dX6_write_21 : decode cX6_write 21 = .ok (.sipush 200, 3) := by decide +kernel
theorem dX6_write_24 : decode cX6_write 24 = .ok (.if_icmp .lt 6, 3) := by decide +kernel
theorem dX6_write_27 : decode cX6_write 27 = .ok (.bipush (-3), 2) := by decide +kernel
theorem dX6_write_29 : decode cX6_write 29 = .ok (.ireturn, 1) := by decide +kernel
theorem dX6_write_30 : decode cX6_write 30 = .ok (.aload_n 0, 1) := by decide +kernel
theorem dX6_write_31 : decode cX6_write 31 = .ok (.getfield 10, 3) := by decide +kernel
theorem dX6_write_34 : decode cX6_write 34 = .ok (.iload_n 1, 1) := by decide +kernel
theorem dX6_write_35 : decode cX6_write 35 = .ok (.invokevirtual 69, 3) := by decide +kernel
theorem dX6_write_38 : decode cX6_write 38 = .ok (.aload_n 0, 1) := by decide +kernel
theorem dX6_write_39 : decode cX6_write 39 = .ok (.getfield 10, 3) := by decide +kernel
theorem dX6_write_42 : decode cX6_write 42 = .ok (.getfield 65, 3) := by decide +kernel
theorem dX6_write_45 : decode cX6_write 45 = .ok (.ireturn, 1) := by decide +kernel
theorem dX6_wipe_0 : decode cX6_wipe 0 = .ok (.aload_n 0, 1) := by decide +kernel
theorem dX6_wipe_1 : decode cX6_wipe 1 = .ok (.getfield 10, 3) := by decide +kernel
theorem dX6_wipe_4 : decode cX6_wipe 4 = .ok (.getfield 65, 3) := by decide +kernel
theorem dX6_wipe_7 : decode cX6_wipe 7 = .ok (.istore_n 1, 1) := by decide +kernel
theorem dX6_wipe_8 : decode cX6_wipe 8 = .ok (.aload_n 0, 1) := by decide +kernel
theorem dX6_wipe_9 : decode cX6_wipe 9 = .ok (.getfield 10, 3) := by decide +kernel
theorem dX6_wipe_12 : decode cX6_wipe 12 = .ok (.iconst 0, 1) := by decide +kernel
theorem dX6_wipe_13 : decode cX6_wipe 13 = .ok (.putfield 65, 3) := by decide +kernel
theorem dX6_wipe_16 : decode cX6_wipe 16 = .ok (.iload_n 1, 1) := by decide +kernel
theorem dX6_wipe_17 : decode cX6_wipe 17 = .ok (.ireturn, 1) := by decide +kernel
theorem dX6_fault_0 : decode cX6_fault 0 = .ok (.aload_n 0, 1) := by decide +kernel
theorem dX6_fault_1 : decode cX6_fault 1 = .ok (.getfield 10, 3) := by decide +kernel
theorem dX6_fault_4 : decode cX6_fault 4 = .ok (.aload_n 0, 1) := by decide +kernel
theorem dX6_fault_5 : decode cX6_fault 5 = .ok (.getfield 19, 3) := by decide +kernel
theorem dX6_fault_8 : decode cX6_fault 8 = .ok (.invokevirtual 73, 3) := by decide +kernel
theorem dX6_fault_11 : decode cX6_fault 11 = .ok (.ireturn, 1) := by decide +kernel
theorem dX6_lay_0 : decode cX6_lay 0 = .ok (.aload_n 0, 1) := by decide +kernel
theorem dX6_lay_1 : decode cX6_lay 1 = .ok (.getfield 10, 3) := by decide +kernel
theorem dX6_lay_4 : decode cX6_lay 4 = .ok (.aload_n 0, 1) := by decide +kernel
theorem dX6_lay_5 : decode cX6_lay 5 = .ok (.getfield 19, 3) := by decide +kernel
theorem dX6_lay_8 : decode cX6_lay 8 = .ok (.invokevirtual 73, 3) := by decide +kernel
theorem dX6_lay_11 : decode cX6_lay 11 = .ok (.bipush (-4), 2) := by decide +kernel
theorem dX6_lay_13 : decode cX6_lay 13 = .ok (.if_icmp .ne 13, 3) := by decide +kernel
theorem dX6_lay_16 : decode cX6_lay 16 = .ok (.aload_n 0, 1) := by decide +kernel
theorem dX6_lay_17 : decode cX6_lay 17 = .ok (.getfield 19, 3) := by decide +kernel
theorem dX6_lay_20 : decode cX6_lay 20 = .ok (.getfield 77, 3) := by decide +kernel
theorem dX6_lay_23 : decode cX6_lay 23 = .ok (.ifCond .ne 6, 3) := by decide +kernel
theorem dX6_lay_26 : decode cX6_lay 26 = .ok (.bipush (-2), 2) := by decide +kernel
theorem dX6_lay_28 : decode cX6_lay 28 = .ok (.ireturn, 1) := by decide +kernel
theorem dX6_lay_29 : decode cX6_lay 29 = .ok (.aload_n 0, 1) := by decide +kernel
theorem dX6_lay_30 : decode cX6_lay 30 = .ok (.invokevirtual 62, 3) := by decide +kernel
theorem dX6_lay_33 : decode cX6_lay 33 = .ok (.aload_n 0, 1) := by decide +kernel
theorem dX6_lay_34 : decode cX6_lay 34 = .ok (.getfield 26, 3) := by decide +kernel
theorem dX6_lay_37 : decode cX6_lay 37 = .ok (.getfield 80, 3) := by decide +kernel
theorem dX6_lay_40 : decode cX6_lay 40 = .ok (.ireturn, 1) := by decide +kernel
theorem dX6_layWhatIsTold_0 : decode cX6_layWhatIsTold 0 = .ok (.aload_n 0, 1) := by decide +kernel
theorem dX6_layWhatIsTold_1 : decode cX6_layWhatIsTold 1 = .ok (.getfield 26, 3) := by decide +kernel
theorem dX6_layWhatIsTold_4 : decode cX6_layWhatIsTold 4 = .ok (.aload_n 0, 1) := by decide +kernel
theorem dX6_layWhatIsTold_5 : decode cX6_layWhatIsTold 5 = .ok (.getfield 19, 3) := by decide +kernel
theorem dX6_layWhatIsTold_8 : decode cX6_layWhatIsTold 8 = .ok (.invokevirtual 81, 3) := by decide +kernel
theorem dX6_layWhatIsTold_11 : decode cX6_layWhatIsTold 11 = .ok (.aload_n 0, 1) := by decide +kernel
theorem dX6_layWhatIsTold_12 : decode cX6_layWhatIsTold 12 = .ok (.getfield 40, 3) := by decide +kernel
theorem dX6_layWhatIsTold_15 : decode cX6_layWhatIsTold 15 = .ok (.aload_n 0, 1) := by decide +kernel
theorem dX6_layWhatIsTold_16 : decode cX6_layWhatIsTold 16 = .ok (.getfield 19, 3) := by decide +kernel
theorem dX6_layWhatIsTold_19 : decode cX6_layWhatIsTold 19 = .ok (.invokevirtual 85, 3) := by decide +kernel
theorem dX6_layWhatIsTold_22 : decode cX6_layWhatIsTold 22 = .ok (.aload_n 0, 1) := by decide +kernel
theorem dX6_layWhatIsTold_23 : decode cX6_layWhatIsTold 23 = .ok (.getfield 47, 3) := by decide +kernel
theorem dX6_layWhatIsTold_26 : decode cX6_layWhatIsTold 26 = .ok (.iconst 0, 1) := by decide +kernel
theorem dX6_layWhatIsTold_27 : decode cX6_layWhatIsTold 27 = .ok (.putfield 86, 3) := by decide +kernel
theorem dX6_layWhatIsTold_30 : decode cX6_layWhatIsTold 30 = .ok (.return_, 1) := by decide +kernel
theorem dX6_power_0 : decode cX6_power 0 = .ok (.aload_n 0, 1) := by decide +kernel
theorem dX6_power_1 : decode cX6_power 1 = .ok (.getfield 26, 3) := by decide +kernel
theorem dX6_power_4 : decode cX6_power 4 = .ok (.iload_n 1, 1) := by decide +kernel
theorem dX6_power_5 : decode cX6_power 5 = .ok (.invokevirtual 87, 3) := by decide +kernel
theorem dX6_power_8 : decode cX6_power 8 = .ok (.ifCond .eq 10, 3) := by decide +kernel
theorem dX6_power_11 : decode cX6_power 11 = .ok (.iload_n 2, 1) := by decide +kernel
theorem dX6_power_12 : decode cX6_power 12 = .ok (.invokestatic 91, 3) := by decide +kernel
theorem dX6_power_15 : decode cX6_power 15 = .ok (.ifCond .ne 5, 3) := by decide +kernel
theorem dX6_power_18 : decode cX6_power 18 = .ok (.iconst (-1), 1) := by decide +kernel
theorem dX6_power_19 : decode cX6_power 19 = .ok (.ireturn, 1) := by decide +kernel
theorem dX6_power_20 : decode cX6_power 20 = .ok (.aload_n 0, 1) := by decide +kernel
theorem dX6_power_21 : decode cX6_power 21 = .ok (.getfield 26, 3) := by decide +kernel
theorem dX6_power_24 : decode cX6_power 24 = .ok (.getfield 94, 3) := by decide +kernel
theorem dX6_power_27 : decode cX6_power 27 = .ok (.iload_n 1, 1) := by decide +kernel
theorem dX6_power_28 : decode cX6_power 28 = .ok (.iaload, 1) := by decide +kernel
theorem dX6_power_29 : decode cX6_power 29 = .ok (.istore_n 3, 1) := by decide +kernel
theorem dX6_power_30 : decode cX6_power 30 = .ok (.iload_n 3, 1) := by decide +kernel
theorem dX6_power_31 : decode cX6_power 31 = .ok (.iload_n 2, 1) := by decide +kernel
theorem dX6_power_32 : decode cX6_power 32 = .ok (.if_icmp .ne 6, 3) := by decide +kernel
theorem dX6_power_35 : decode cX6_power 35 = .ok (.bipush (-2), 2) := by decide +kernel
theorem dX6_power_37 : decode cX6_power 37 = .ok (.ireturn, 1) := by decide +kernel
theorem dX6_power_38 : decode cX6_power 38 = .ok (.aload_n 0, 1) := by decide +kernel
theorem dX6_power_39 : decode cX6_power 39 = .ok (.getfield 47, 3) := by decide +kernel
theorem dX6_power_42 : decode cX6_power 42 = .ok (.iconst 0, 1) := by decide +kernel
theorem dX6_power_43 : decode cX6_power 43 = .ok (.iload_n 1, 1) := by decide +kernel
theorem dX6_power_44 : decode cX6_power 44 = .ok (.iload_n 3, 1) := by decide +kernel
theorem dX6_power_45 : decode cX6_power 45 = .ok (.invokevirtual 97, 3) := by decide +kernel
theorem dX6_power_48 : decode cX6_power 48 = .ok (.aload_n 0, 1) := by decide +kernel
theorem dX6_power_49 : decode cX6_power 49 = .ok (.getfield 26, 3) := by decide +kernel
theorem dX6_power_52 : decode cX6_power 52 = .ok (.iload_n 1, 1) := by decide +kernel
theorem dX6_power_53 : decode cX6_power 53 = .ok (.iload_n 2, 1) := by decide +kernel
theorem dX6_power_54 : decode cX6_power 54 = .ok (.invokevirtual 101, 3) := by decide +kernel
theorem dX6_power_57 : decode cX6_power 57 = .ok (.iload_n 3, 1) := by decide +kernel
theorem dX6_power_58 : decode cX6_power 58 = .ok (.ireturn, 1) := by decide +kernel
theorem dX6_leave_0 : decode cX6_leave 0 = .ok (.aload_n 0, 1) := by decide +kernel
theorem dX6_leave_1 : decode cX6_leave 1 = .ok (.getfield 26, 3) := by decide +kernel
theorem dX6_leave_4 : decode cX6_leave 4 = .ok (.iload_n 1, 1) := by decide +kernel
theorem dX6_leave_5 : decode cX6_leave 5 = .ok (.invokevirtual 87, 3) := by decide +kernel
theorem dX6_leave_8 : decode cX6_leave 8 = .ok (.ifCond .eq 12, 3) := by decide +kernel
theorem dX6_leave_11 : decode cX6_leave 11 = .ok (.iload_n 2, 1) := by decide +kernel
theorem dX6_leave_12 : decode cX6_leave 12 = .ok (.ifCond .lt 8, 3) := by decide +kernel
theorem dX6_leave_15 : decode cX6_leave 15 = .ok (.iload_n 2, 1) := by decide +kernel
theorem dX6_leave_16 : decode cX6_leave 16 = .ok (.iconst 1, 1) := by decide +kernel
theorem dX6_leave_17 : decode cX6_leave 17 = .ok (.if_icmp .le 5, 3) := by decide +kernel
theorem dX6_leave_20 : decode cX6_leave 20 = .ok (.iconst (-1), 1) := by decide +kernel
theorem dX6_leave_21 : decode cX6_leave 21 = .ok (.ireturn, 1) := by decide +kernel
theorem dX6_leave_22 : decode cX6_leave 22 = .ok (.aload_n 0, 1) := by decide +kernel
theorem dX6_leave_23 : decode cX6_leave 23 = .ok (.getfield 26, 3) := by decide +kernel
theorem dX6_leave_26 : decode cX6_leave 26 = .ok (.getfield 105, 3) := by decide +kernel
theorem dX6_leave_29 : decode cX6_leave 29 = .ok (.iload_n 1, 1) := by decide +kernel
theorem dX6_leave_30 : decode cX6_leave 30 = .ok (.iaload, 1) := by decide +kernel
theorem dX6_leave_31 : decode cX6_leave 31 = .ok (.istore_n 3, 1) := by decide +kernel
theorem dX6_leave_32 : decode cX6_leave 32 = .ok (.iload_n 3, 1) := by decide +kernel
theorem dX6_leave_33 : decode cX6_leave 33 = .ok (.iload_n 2, 1) := by decide +kernel
theorem dX6_leave_34 : decode cX6_leave 34 = .ok (.if_icmp .ne 6, 3) := by decide +kernel
theorem dX6_leave_37 : decode cX6_leave 37 = .ok (.bipush (-2), 2) := by decide +kernel
theorem dX6_leave_39 : decode cX6_leave 39 = .ok (.ireturn, 1) := by decide +kernel
theorem dX6_leave_40 : decode cX6_leave 40 = .ok (.aload_n 0, 1) := by decide +kernel
theorem dX6_leave_41 : decode cX6_leave 41 = .ok (.getfield 47, 3) := by decide +kernel
theorem dX6_leave_44 : decode cX6_leave 44 = .ok (.iconst 1, 1) := by decide +kernel
theorem dX6_leave_45 : decode cX6_leave 45 = .ok (.iload_n 1, 1) := by decide +kernel
theorem dX6_leave_46 : decode cX6_leave 46 = .ok (.iload_n 3, 1) := by decide +kernel
theorem dX6_leave_47 : decode cX6_leave 47 = .ok (.invokevirtual 97, 3) := by decide +kernel
theorem dX6_leave_50 : decode cX6_leave 50 = .ok (.aload_n 0, 1) := by decide +kernel
theorem dX6_leave_51 : decode cX6_leave 51 = .ok (.getfield 26, 3) := by decide +kernel
theorem dX6_leave_54 : decode cX6_leave 54 = .ok (.iload_n 1, 1) := by decide +kernel
theorem dX6_leave_55 : decode cX6_leave 55 = .ok (.iload_n 2, 1) := by decide +kernel
theorem dX6_leave_56 : decode cX6_leave 56 = .ok (.invokevirtual 108, 3) := by decide +kernel
theorem dX6_leave_59 : decode cX6_leave 59 = .ok (.aload_n 0, 1) := by decide +kernel
theorem dX6_leave_60 : decode cX6_leave 60 = .ok (.getfield 26, 3) := by decide +kernel
theorem dX6_leave_63 : decode cX6_leave 63 = .ok (.invokevirtual 111, 3) := by decide +kernel
theorem dX6_leave_66 : decode cX6_leave 66 = .ok (.ireturn, 1) := by decide +kernel
theorem dX6_look_0 : decode cX6_look 0 = .ok (.iload_n 1, 1) := by decide +kernel
theorem dX6_look_1 : decode cX6_look 1 = .ok (.ifCond .lt 16, 3) := by decide +kernel
theorem dX6_look_4 : decode cX6_look 4 = .ok (.iload_n 1, 1) := by decide +kernel
theorem dX6_look_5 : decode cX6_look 5 = .ok (.iconst 4, 1) := by decide +kernel
theorem dX6_look_6 : decode cX6_look 6 = .ok (.if_icmp .gt 11, 3) := by decide +kernel
theorem dX6_look_9 : decode cX6_look 9 = .ok (.iload_n 1, 1) := by decide +kernel
theorem dX6_look_10 : decode cX6_look 10 = .ok (.iload_n 2, 1) := by decide +kernel
theorem dX6_look_11 : decode cX6_look 11 = .ok (.invokestatic 115, 3) := by decide +kernel
theorem dX6_look_14 : decode cX6_look 14 = .ok (.ifCond .ne 5, 3) := by decide +kernel
theorem dX6_look_17 : decode cX6_look 17 = .ok (.iconst (-1), 1) := by decide +kernel
theorem dX6_look_18 : decode cX6_look 18 = .ok (.ireturn, 1) := by decide +kernel
theorem dX6_look_19 : decode cX6_look 19 = .ok (.aload_n 0, 1) := by decide +kernel
theorem dX6_look_20 : decode cX6_look 20 = .ok (.getfield 26, 3) := by decide +kernel
theorem dX6_look_23 : decode cX6_look 23 = .ok (.getfield 119, 3) := by decide +kernel
theorem dX6_look_26 : decode cX6_look 26 = .ok (.iload_n 1, 1) := by decide +kernel
theorem dX6_look_27 : decode cX6_look 27 = .ok (.iaload, 1) := by decide +kernel
theorem dX6_look_28 : decode cX6_look 28 = .ok (.istore_n 3, 1) := by decide +kernel
theorem dX6_look_29 : decode cX6_look 29 = .ok (.iload_n 3, 1) := by decide +kernel
theorem dX6_look_30 : decode cX6_look 30 = .ok (.iload_n 2, 1) := by decide +kernel
theorem dX6_look_31 : decode cX6_look 31 = .ok (.if_icmp .ne 6, 3) := by decide +kernel
theorem dX6_look_34 : decode cX6_look 34 = .ok (.bipush (-2), 2) := by decide +kernel
theorem dX6_look_36 : decode cX6_look 36 = .ok (.ireturn, 1) := by decide +kernel
theorem dX6_look_37 : decode cX6_look 37 = .ok (.aload_n 0, 1) := by decide +kernel
theorem dX6_look_38 : decode cX6_look 38 = .ok (.getfield 47, 3) := by decide +kernel
theorem dX6_look_41 : decode cX6_look 41 = .ok (.iconst 2, 1) := by decide +kernel
theorem dX6_look_42 : decode cX6_look 42 = .ok (.iload_n 1, 1) := by decide +kernel
theorem dX6_look_43 : decode cX6_look 43 = .ok (.iload_n 3, 1) := by decide +kernel
theorem dX6_look_44 : decode cX6_look 44 = .ok (.invokevirtual 97, 3) := by decide +kernel
theorem dX6_look_47 : decode cX6_look 47 = .ok (.aload_n 0, 1) := by decide +kernel
theorem dX6_look_48 : decode cX6_look 48 = .ok (.getfield 26, 3) := by decide +kernel
theorem dX6_look_51 : decode cX6_look 51 = .ok (.iload_n 1, 1) := by decide +kernel
theorem dX6_look_52 : decode cX6_look 52 = .ok (.iload_n 2, 1) := by decide +kernel
theorem dX6_look_53 : decode cX6_look 53 = .ok (.invokevirtual 122, 3) := by decide +kernel
theorem dX6_look_56 : decode cX6_look 56 = .ok (.iload_n 3, 1) := by decide +kernel
theorem dX6_look_57 : decode cX6_look 57 = .ok (.ireturn, 1) := by decide +kernel
theorem dX6_mode_0 : decode cX6_mode 0 = .ok (.iload_n 1, 1) := by decide +kernel
theorem dX6_mode_1 : decode cX6_mode 1 = .ok (.ifCond .lt 8, 3) := by decide +kernel
theorem dX6_mode_4 : decode cX6_mode 4 = .ok (.iload_n 1, 1) := by decide +kernel
theorem dX6_mode_5 : decode cX6_mode 5 = .ok (.iconst 2, 1) := by decide +kernel
theorem dX6_mode_6 : decode cX6_mode 6 = .ok (.if_icmp .le 5, 3) := by decide +kernel
theorem dX6_mode_9 : decode cX6_mode 9 = .ok (.iconst (-1), 1) := by decide +kernel
theorem dX6_mode_10 : decode cX6_mode 10 = .ok (.ireturn, 1) := by decide +kernel
theorem dX6_mode_11 : decode cX6_mode 11 = .ok (.aload_n 0, 1) := by decide +kernel
theorem dX6_mode_12 : decode cX6_mode 12 = .ok (.getfield 26, 3) := by decide +kernel
theorem dX6_mode_15 : decode cX6_mode 15 = .ok (.getfield 125, 3) := by decide +kernel
theorem dX6_mode_18 : decode cX6_mode 18 = .ok (.istore_n 2, 1) := by decide +kernel
theorem dX6_mode_19 : decode cX6_mode 19 = .ok (.iload_n 2, 1) := by decide +kernel
theorem dX6_mode_20 : decode cX6_mode 20 = .ok (.iload_n 1, 1) := by decide +kernel
theorem dX6_mode_21 : decode cX6_mode 21 = .ok (.if_icmp .ne 6, 3) := by decide +kernel
theorem dX6_mode_24 : decode cX6_mode 24 = .ok (.bipush (-2), 2) := by decide +kernel
theorem dX6_mode_26 : decode cX6_mode 26 = .ok (.ireturn, 1) := by decide +kernel
theorem dX6_mode_27 : decode cX6_mode 27 = .ok (.aload_n 0, 1) := by decide +kernel
theorem dX6_mode_28 : decode cX6_mode 28 = .ok (.getfield 47, 3) := by decide +kernel
theorem dX6_mode_31 : decode cX6_mode 31 = .ok (.iconst 3, 1) := by decide +kernel
theorem dX6_mode_32 : decode cX6_mode 32 = .ok (.iconst 0, 1) := by decide +kernel
theorem dX6_mode_33 : decode cX6_mode 33 = .ok (.iload_n 2, 1) := by decide +kernel
theorem dX6_mode_34 : decode cX6_mode 34 = .ok (.invokevirtual 97, 3) := by decide +kernel
theorem dX6_mode_37 : decode cX6_mode 37 = .ok (.aload_n 0, 1) := by decide +kernel
theorem dX6_mode_38 : decode cX6_mode 38 = .ok (.getfield 26, 3) := by decide +kernel
theorem dX6_mode_41 : decode cX6_mode 41 = .ok (.iload_n 1, 1) := by decide +kernel
theorem dX6_mode_42 : decode cX6_mode 42 = .ok (.invokevirtual 128, 3) := by decide +kernel
theorem dX6_mode_45 : decode cX6_mode 45 = .ok (.iload_n 2, 1) := by decide +kernel
theorem dX6_mode_46 : decode cX6_mode 46 = .ok (.ireturn, 1) := by decide +kernel
theorem dX6_slide_0 : decode cX6_slide 0 = .ok (.iload_n 1, 1) := by decide +kernel
theorem dX6_slide_1 : decode cX6_slide 1 = .ok (.invokestatic 91, 3) := by decide +kernel
theorem dX6_slide_4 : decode cX6_slide 4 = .ok (.ifCond .ne 5, 3) := by decide +kernel
theorem dX6_slide_7 : decode cX6_slide 7 = .ok (.iconst (-1), 1) := by decide +kernel
theorem dX6_slide_8 : decode cX6_slide 8 = .ok (.ireturn, 1) := by decide +kernel
theorem dX6_slide_9 : decode cX6_slide 9 = .ok (.aload_n 0, 1) := by decide +kernel
theorem dX6_slide_10 : decode cX6_slide 10 = .ok (.getfield 26, 3) := by decide +kernel
theorem dX6_slide_13 : decode cX6_slide 13 = .ok (.getfield 94, 3) := by decide +kernel
theorem dX6_slide_16 : decode cX6_slide 16 = .ok (.iconst 0, 1) := by decide +kernel
theorem dX6_slide_17 : decode cX6_slide 17 = .ok (.iaload, 1) := by decide +kernel
theorem dX6_slide_18 : decode cX6_slide 18 = .ok (.istore_n 2, 1) := by decide +kernel
theorem dX6_slide_19 : decode cX6_slide 19 = .ok (.aload_n 0, 1) := by decide +kernel
theorem dX6_slide_20 : decode cX6_slide 20 = .ok (.getfield 47, 3) := by decide +kernel
theorem dX6_slide_23 : decode cX6_slide 23 = .ok (.iconst 4, 1) := by decide +kernel
theorem dX6_slide_24 : decode cX6_slide 24 = .ok (.aload_n 0, 1) := by decide +kernel
theorem dX6_slide_25 : decode cX6_slide 25 = .ok (.getfield 26, 3) := by decide +kernel
theorem dX6_slide_28 : decode cX6_slide 28 = .ok (.getfield 105, 3) := by decide +kernel
theorem dX6_slide_31 : decode cX6_slide 31 = .ok (.iconst 0, 1) := by decide +kernel
theorem dX6_slide_32 : decode cX6_slide 32 = .ok (.iaload, 1) := by decide +kernel
theorem dX6_slide_33 : decode cX6_slide 33 = .ok (.iload_n 2, 1) := by decide +kernel
theorem dX6_slide_34 : decode cX6_slide 34 = .ok (.invokevirtual 97, 3) := by decide +kernel
theorem dX6_slide_37 : decode cX6_slide 37 = .ok (.aload_n 0, 1) := by decide +kernel
theorem dX6_slide_38 : decode cX6_slide 38 = .ok (.getfield 26, 3) := by decide +kernel
theorem dX6_slide_41 : decode cX6_slide 41 = .ok (.iload_n 1, 1) := by decide +kernel
theorem dX6_slide_42 : decode cX6_slide 42 = .ok (.invokevirtual 131, 3) := by decide +kernel
theorem dX6_slide_45 : decode cX6_slide 45 = .ok (.iload_n 2, 1) := by decide +kernel
theorem dX6_slide_46 : decode cX6_slide 46 = .ok (.ireturn, 1) := by decide +kernel
theorem dX6_undo_0 : decode cX6_undo 0 = .ok (.aload_n 0, 1) := by decide +kernel
theorem dX6_undo_1 : decode cX6_undo 1 = .ok (.getfield 47, 3) := by decide +kernel
theorem dX6_undo_4 : decode cX6_undo 4 = .ok (.getfield 86, 3) := by decide +kernel
theorem dX6_undo_7 : decode cX6_undo 7 = .ok (.ifCond .gt 6, 3) := by decide +kernel
theorem dX6_undo_10 : decode cX6_undo 10 = .ok (.bipush (-2), 2) := by decide +kernel
theorem dX6_undo_12 : decode cX6_undo 12 = .ok (.ireturn, 1) := by decide +kernel
theorem dX6_undo_13 : decode cX6_undo 13 = .ok (.aload_n 0, 1) := by decide +kernel
theorem dX6_undo_14 : decode cX6_undo 14 = .ok (.getfield 47, 3) := by decide +kernel
theorem dX6_undo_17 : decode cX6_undo 17 = .ok (.dup, 1) := by decide +kernel
theorem dX6_undo_18 : decode cX6_undo 18 = .ok (.getfield 86, 3) := by decide +kernel
theorem dX6_undo_21 : decode cX6_undo 21 = .ok (.iconst 1, 1) := by decide +kernel
theorem dX6_undo_22 : decode cX6_undo 22 = .ok (.isub, 1) := by decide +kernel
theorem dX6_undo_23 : decode cX6_undo 23 = .ok (.putfield 86, 3) := by decide +kernel
theorem dX6_undo_26 : decode cX6_undo 26 = .ok (.aload_n 0, 1) := by decide +kernel
theorem dX6_undo_27 : decode cX6_undo 27 = .ok (.getfield 26, 3) := by decide +kernel
theorem dX6_undo_30 : decode cX6_undo 30 = .ok (.aload_n 0, 1) := by decide +kernel
theorem dX6_undo_31 : decode cX6_undo 31 = .ok (.getfield 47, 3) := by decide +kernel
theorem dX6_undo_34 : decode cX6_undo 34 = .ok (.getfield 134, 3) := by decide +kernel
theorem dX6_undo_37 : decode cX6_undo 37 = .ok (.aload_n 0, 1) := by decide +kernel
theorem dX6_undo_38 : decode cX6_undo 38 = .ok (.getfield 47, 3) := by decide +kernel
theorem dX6_undo_41 : decode cX6_undo 41 = .ok (.getfield 86, 3) := by decide +kernel
theorem dX6_undo_44 : decode cX6_undo 44 = .ok (.iaload, 1) := by decide +kernel
theorem dX6_undo_45 : decode cX6_undo 45 = .ok (.aload_n 0, 1) := by decide +kernel
theorem dX6_undo_46 : decode cX6_undo 46 = .ok (.getfield 47, 3) := by decide +kernel
theorem dX6_undo_49 : decode cX6_undo 49 = .ok (.getfield 137, 3) := by decide +kernel
theorem dX6_undo_52 : decode cX6_undo 52 = .ok (.aload_n 0, 1) := by decide +kernel
theorem dX6_undo_53 : decode cX6_undo 53 = .ok (.getfield 47, 3) := by decide +kernel
theorem dX6_undo_56 : decode cX6_undo 56 = .ok (.getfield 86, 3) := by decide +kernel
theorem dX6_undo_59 : decode cX6_undo 59 = .ok (.iaload, 1) := by decide +kernel
theorem dX6_undo_60 : decode cX6_undo 60 = .ok (.aload_n 0, 1) := by decide +kernel
theorem dX6_undo_61 : decode cX6_undo 61 = .ok (.getfield 47, 3) := by decide +kernel
theorem dX6_undo_64 : decode cX6_undo 64 = .ok (.getfield 140, 3) := by decide +kernel
theorem dX6_undo_67 : decode cX6_undo 67 = .ok (.aload_n 0, 1) := by decide +kernel
theorem dX6_undo_68 : decode cX6_undo 68 = .ok (.getfield 47, 3) := by decide +kernel
theorem dX6_undo_71 : decode cX6_undo 71 = .ok (.getfield 86, 3) := by decide +kernel
theorem dX6_undo_74 : decode cX6_undo 74 = .ok (.iaload, 1) := by decide +kernel
theorem dX6_undo_75 : decode cX6_undo 75 = .ok (.invokevirtual 143, 3) := by decide +kernel
theorem dX6_undo_78 : decode cX6_undo 78 = .ok (.aload_n 0, 1) := by decide +kernel
theorem dX6_undo_79 : decode cX6_undo 79 = .ok (.getfield 47, 3) := by decide +kernel
theorem dX6_undo_82 : decode cX6_undo 82 = .ok (.getfield 86, 3) := by decide +kernel
theorem dX6_undo_85 : decode cX6_undo 85 = .ok (.ireturn, 1) := by decide +kernel
theorem dX6_cell_0 : decode cX6_cell 0 = .ok (.aload_n 0, 1) := by decide +kernel
theorem dX6_cell_1 : decode cX6_cell 1 = .ok (.getfield 26, 3) := by decide +kernel
theorem dX6_cell_4 : decode cX6_cell 4 = .ok (.iload_n 1, 1) := by decide +kernel
theorem dX6_cell_5 : decode cX6_cell 5 = .ok (.invokevirtual 87, 3) := by decide +kernel
theorem dX6_cell_8 : decode cX6_cell 8 = .ok (.ifCond .ne 5, 3) := by decide +kernel
theorem dX6_cell_11 : decode cX6_cell 11 = .ok (.iconst (-1), 1) := by decide +kernel
theorem dX6_cell_12 : decode cX6_cell 12 = .ok (.ireturn, 1) := by decide +kernel
theorem dX6_cell_13 : decode cX6_cell 13 = .ok (.iload_n 2, 1) := by decide +kernel
theorem dX6_cell_14 : decode cX6_cell 14 = .ok (.tableswitch 137 0 6 #[42, 52, 62, 74, 86, 97, 116], 42) := by decide +kernel
theorem dX6_cell_56 : decode cX6_cell 56 = .ok (.aload_n 0, 1) := by decide +kernel
theorem dX6_cell_57 : decode cX6_cell 57 = .ok (.getfield 26, 3) := by decide +kernel
theorem dX6_cell_60 : decode cX6_cell 60 = .ok (.getfield 94, 3) := by decide +kernel
theorem dX6_cell_63 : decode cX6_cell 63 = .ok (.iload_n 1, 1) := by decide +kernel
theorem dX6_cell_64 : decode cX6_cell 64 = .ok (.iaload, 1) := by decide +kernel
theorem dX6_cell_65 : decode cX6_cell 65 = .ok (.ireturn, 1) := by decide +kernel
theorem dX6_cell_66 : decode cX6_cell 66 = .ok (.aload_n 0, 1) := by decide +kernel
theorem dX6_cell_67 : decode cX6_cell 67 = .ok (.getfield 26, 3) := by decide +kernel
theorem dX6_cell_70 : decode cX6_cell 70 = .ok (.getfield 105, 3) := by decide +kernel
theorem dX6_cell_73 : decode cX6_cell 73 = .ok (.iload_n 1, 1) := by decide +kernel
theorem dX6_cell_74 : decode cX6_cell 74 = .ok (.iaload, 1) := by decide +kernel
theorem dX6_cell_75 : decode cX6_cell 75 = .ok (.ireturn, 1) := by decide +kernel
theorem dX6_cell_76 : decode cX6_cell 76 = .ok (.aload_n 0, 1) := by decide +kernel
theorem dX6_cell_77 : decode cX6_cell 77 = .ok (.getfield 26, 3) := by decide +kernel
theorem dX6_cell_80 : decode cX6_cell 80 = .ok (.iload_n 1, 1) := by decide +kernel
theorem dX6_cell_81 : decode cX6_cell 81 = .ok (.iconst 0, 1) := by decide +kernel
theorem dX6_cell_82 : decode cX6_cell 82 = .ok (.bipush (-4), 2) := by decide +kernel
theorem dX6_cell_84 : decode cX6_cell 84 = .ok (.invokevirtual 146, 3) := by decide +kernel
theorem dX6_cell_87 : decode cX6_cell 87 = .ok (.ireturn, 1) := by decide +kernel
theorem dX6_cell_88 : decode cX6_cell 88 = .ok (.aload_n 0, 1) := by decide +kernel
theorem dX6_cell_89 : decode cX6_cell 89 = .ok (.getfield 26, 3) := by decide +kernel
theorem dX6_cell_92 : decode cX6_cell 92 = .ok (.iload_n 1, 1) := by decide +kernel
theorem dX6_cell_93 : decode cX6_cell 93 = .ok (.iconst 1, 1) := by decide +kernel
theorem dX6_cell_94 : decode cX6_cell 94 = .ok (.bipush (-4), 2) := by decide +kernel
theorem dX6_cell_96 : decode cX6_cell 96 = .ok (.invokevirtual 146, 3) := by decide +kernel
theorem dX6_cell_99 : decode cX6_cell 99 = .ok (.ireturn, 1) := by decide +kernel
theorem dX6_cell_100 : decode cX6_cell 100 = .ok (.aload_n 0, 1) := by decide +kernel
theorem dX6_cell_101 : decode cX6_cell 101 = .ok (.getfield 26, 3) := by decide +kernel
theorem dX6_cell_104 : decode cX6_cell 104 = .ok (.iload_n 1, 1) := by decide +kernel
theorem dX6_cell_105 : decode cX6_cell 105 = .ok (.bipush (-4), 2) := by decide +kernel
theorem dX6_cell_107 : decode cX6_cell 107 = .ok (.invokevirtual 150, 3) := by decide +kernel
theorem dX6_cell_110 : decode cX6_cell 110 = .ok (.ireturn, 1) := by decide +kernel
theorem dX6_cell_111 : decode cX6_cell 111 = .ok (.aload_n 0, 1) := by decide +kernel
theorem dX6_cell_112 : decode cX6_cell 112 = .ok (.getfield 26, 3) := by decide +kernel
theorem dX6_cell_115 : decode cX6_cell 115 = .ok (.iload_n 1, 1) := by decide +kernel
theorem dX6_cell_116 : decode cX6_cell 116 = .ok (.bipush (-4), 2) := by decide +kernel
theorem dX6_cell_118 : decode cX6_cell 118 = .ok (.invokevirtual 154, 3) := by decide +kernel
theorem dX6_cell_121 : decode cX6_cell 121 = .ok (.ifCond .eq 7, 3) := by decide +kernel
theorem dX6_cell_124 : decode cX6_cell 124 = .ok (.iconst 1, 1) := by decide +kernel
theorem dX6_cell_125 : decode cX6_cell 125 = .ok (.goto 4, 3) := by decide +kernel
theorem dX6_cell_128 : decode cX6_cell 128 = .ok (.iconst 0, 1) := by decide +kernel
theorem dX6_cell_129 : decode cX6_cell 129 = .ok (.ireturn, 1) := by decide +kernel
theorem dX6_cell_130 : decode cX6_cell 130 = .ok (.aload_n 0, 1) := by decide +kernel
theorem dX6_cell_131 : decode cX6_cell 131 = .ok (.getfield 33, 3) := by decide +kernel
theorem dX6_cell_134 : decode cX6_cell 134 = .ok (.aload_n 0, 1) := by decide +kernel
theorem dX6_cell_135 : decode cX6_cell 135 = .ok (.getfield 26, 3) := by decide +kernel
theorem dX6_cell_138 : decode cX6_cell 138 = .ok (.invokevirtual 157, 3) := by decide +kernel
theorem dX6_cell_141 : decode cX6_cell 141 = .ok (.aload_n 0, 1) := by decide +kernel
theorem dX6_cell_142 : decode cX6_cell 142 = .ok (.getfield 33, 3) := by decide +kernel
theorem dX6_cell_145 : decode cX6_cell 145 = .ok (.getfield 161, 3) := by decide +kernel
theorem dX6_cell_148 : decode cX6_cell 148 = .ok (.iload_n 1, 1) := by decide +kernel
theorem dX6_cell_149 : decode cX6_cell 149 = .ok (.iaload, 1) := by decide +kernel
theorem dX6_cell_150 : decode cX6_cell 150 = .ok (.ireturn, 1) := by decide +kernel
theorem dX6_cell_151 : decode cX6_cell 151 = .ok (.iconst (-1), 1) := by decide +kernel
theorem dX6_cell_152 : decode cX6_cell 152 = .ok (.ireturn, 1) := by decide +kernel
theorem dX6_ranked_0 : decode cX6_ranked 0 = .ok (.aload_n 0, 1) := by decide +kernel
theorem dX6_ranked_1 : decode cX6_ranked 1 = .ok (.getfield 26, 3) := by decide +kernel
theorem dX6_ranked_4 : decode cX6_ranked 4 = .ok (.iload_n 1, 1) := by decide +kernel
theorem dX6_ranked_5 : decode cX6_ranked 5 = .ok (.invokevirtual 87, 3) := by decide +kernel
theorem dX6_ranked_8 : decode cX6_ranked 8 = .ok (.ifCond .eq 17, 3) := by decide +kernel
theorem dX6_ranked_11 : decode cX6_ranked 11 = .ok (.iload_n 2, 1) := by decide +kernel
theorem dX6_ranked_12 : decode cX6_ranked 12 = .ok (.ifCond .lt 13, 3) := by decide +kernel
theorem dX6_ranked_15 : decode cX6_ranked 15 = .ok (.iload_n 2, 1) := by decide +kernel
theorem dX6_ranked_16 : decode cX6_ranked 16 = .ok (.iconst 2, 1) := by decide +kernel
theorem dX6_ranked_17 : decode cX6_ranked 17 = .ok (.if_icmp .gt 8, 3) := by decide +kernel
theorem dX6_ranked_20 : decode cX6_ranked 20 = .ok (.iload_n 3, 1) := by decide +kernel
theorem dX6_ranked_21 : decode cX6_ranked 21 = .ok (.iconst 1, 1) := by decide +kernel
theorem dX6_ranked_22 : decode cX6_ranked 22 = .ok (.if_icmp .ge 5, 3) := by decide +kernel
theorem dX6_ranked_25 : decode cX6_ranked 25 = .ok (.iconst (-1), 1) := by decide +kernel
theorem dX6_ranked_26 : decode cX6_ranked 26 = .ok (.ireturn, 1) := by decide +kernel
theorem dX6_ranked_27 : decode cX6_ranked 27 = .ok (.aload_n 0, 1) := by decide +kernel
theorem dX6_ranked_28 : decode cX6_ranked 28 = .ok (.getfield 26, 3) := by decide +kernel
theorem dX6_ranked_31 : decode cX6_ranked 31 = .ok (.iload_n 1, 1) := by decide +kernel
theorem dX6_ranked_32 : decode cX6_ranked 32 = .ok (.iload_n 2, 1) := by decide +kernel
theorem dX6_ranked_33 : decode cX6_ranked 33 = .ok (.bipush (-4), 2) := by decide +kernel
theorem dX6_ranked_35 : decode cX6_ranked 35 = .ok (.invokevirtual 146, 3) := by decide +kernel
theorem dX6_ranked_38 : decode cX6_ranked 38 = .ok (.istore 4, 2) := by decide +kernel
theorem dX6_ranked_40 : decode cX6_ranked 40 = .ok (.iload_n 3, 1) := by decide +kernel
theorem dX6_ranked_41 : decode cX6_ranked 41 = .ok (.iload 4, 2) := by decide +kernel
theorem dX6_ranked_43 : decode cX6_ranked 43 = .ok (.if_icmp .gt 9, 3) := by decide +kernel
theorem dX6_ranked_46 : decode cX6_ranked 46 = .ok (.iload_n 3, 1) := by decide +kernel
theorem dX6_ranked_47 : decode cX6_ranked 47 = .ok (.bipush 12, 2) := by decide +kernel
theorem dX6_ranked_49 : decode cX6_ranked 49 = .ok (.if_icmp .le 8, 3) := by decide +kernel
theorem dX6_ranked_52 : decode cX6_ranked 52 = .ok (.bipush (-4), 2) := by decide +kernel
theorem dX6_ranked_54 : decode cX6_ranked 54 = .ok (.goto 14, 3) := by decide +kernel
theorem dX6_ranked_57 : decode cX6_ranked 57 = .ok (.aload_n 0, 1) := by decide +kernel
theorem dX6_ranked_58 : decode cX6_ranked 58 = .ok (.getfield 26, 3) := by decide +kernel
theorem dX6_ranked_61 : decode cX6_ranked 61 = .ok (.getfield 164, 3) := by decide +kernel
theorem dX6_ranked_64 : decode cX6_ranked 64 = .ok (.iload_n 3, 1) := by decide +kernel
theorem dX6_ranked_65 : decode cX6_ranked 65 = .ok (.iconst 1, 1) := by decide +kernel
theorem dX6_ranked_66 : decode cX6_ranked 66 = .ok (.isub, 1) := by decide +kernel
theorem dX6_ranked_67 : decode cX6_ranked 67 = .ok (.iaload, 1) := by decide +kernel
theorem dX6_ranked_68 : decode cX6_ranked 68 = .ok (.ireturn, 1) := by decide +kernel
theorem dX6_hides_0 : decode cX6_hides 0 = .ok (.aload_n 0, 1) := by decide +kernel
theorem dX6_hides_1 : decode cX6_hides 1 = .ok (.getfield 26, 3) := by decide +kernel
theorem dX6_hides_4 : decode cX6_hides 4 = .ok (.iload_n 1, 1) := by decide +kernel
theorem dX6_hides_5 : decode cX6_hides 5 = .ok (.invokevirtual 87, 3) := by decide +kernel
theorem dX6_hides_8 : decode cX6_hides 8 = .ok (.ifCond .eq 24, 3) := by decide +kernel
theorem dX6_hides_11 : decode cX6_hides 11 = .ok (.iload_n 1, 1) := by decide +kernel
theorem dX6_hides_12 : decode cX6_hides 12 = .ok (.iload_n 2, 1) := by decide +kernel
theorem dX6_hides_13 : decode cX6_hides 13 = .ok (.if_icmp .eq 19, 3) := by decide +kernel
theorem dX6_hides_16 : decode cX6_hides 16 = .ok (.iload_n 2, 1) := by decide +kernel
theorem dX6_hides_17 : decode cX6_hides 17 = .ok (.iconst (-1), 1) := by decide +kernel
theorem dX6_hides_18 : decode cX6_hides 18 = .ok (.if_icmp .eq 16, 3) := by decide +kernel
theorem dX6_hides_21 : decode cX6_hides 21 = .ok (.aload_n 0, 1) := by decide +kernel
theorem dX6_hides_22 : decode cX6_hides 22 = .ok (.getfield 26, 3) := by decide +kernel
theorem dX6_hides_25 : decode cX6_hides 25 = .ok (.iload_n 2, 1) := by decide +kernel
theorem dX6_hides_26 : decode cX6_hides 26 = .ok (.invokevirtual 87, 3) := by decide +kernel
theorem dX6_hides_29 : decode cX6_hides 29 = .ok (.ifCond .ne 5, 3) := by decide +kernel
theorem dX6_hides_32 : decode cX6_hides 32 = .ok (.iconst (-1), 1) := by decide +kernel
theorem dX6_hides_33 : decode cX6_hides 33 = .ok (.ireturn, 1) := by decide +kernel
theorem dX6_hides_34 : decode cX6_hides 34 = .ok (.aload_n 0, 1) := by decide +kernel
theorem dX6_hides_35 : decode cX6_hides 35 = .ok (.getfield 26, 3) := by decide +kernel
theorem dX6_hides_38 : decode cX6_hides 38 = .ok (.getfield 105, 3) := by decide +kernel
theorem dX6_hides_41 : decode cX6_hides 41 = .ok (.iload_n 1, 1) := by decide +kernel
theorem dX6_hides_42 : decode cX6_hides 42 = .ok (.iaload, 1) := by decide +kernel
theorem dX6_hides_43 : decode cX6_hides 43 = .ok (.iconst 1, 1) := by decide +kernel
theorem dX6_hides_44 : decode cX6_hides 44 = .ok (.if_icmp .eq 21, 3) := by decide +kernel
theorem dX6_hides_47 : decode cX6_hides 47 = .ok (.iload_n 2, 1) := by decide +kernel
theorem dX6_hides_48 : decode cX6_hides 48 = .ok (.iconst (-1), 1) := by decide +kernel
theorem dX6_hides_49 : decode cX6_hides 49 = .ok (.if_icmp .eq 19, 3) := by decide +kernel
theorem dX6_hides_52 : decode cX6_hides 52 = .ok (.aload_n 0, 1) := by decide +kernel
theorem dX6_hides_53 : decode cX6_hides 53 = .ok (.getfield 26, 3) := by decide +kernel
theorem dX6_hides_56 : decode cX6_hides 56 = .ok (.getfield 105, 3) := by decide +kernel
theorem dX6_hides_59 : decode cX6_hides 59 = .ok (.iload_n 2, 1) := by decide +kernel
theorem dX6_hides_60 : decode cX6_hides 60 = .ok (.iaload, 1) := by decide +kernel
theorem dX6_hides_61 : decode cX6_hides 61 = .ok (.iconst 1, 1) := by decide +kernel
theorem dX6_hides_62 : decode cX6_hides 62 = .ok (.if_icmp .ne 6, 3) := by decide +kernel
theorem dX6_hides_65 : decode cX6_hides 65 = .ok (.bipush (-2), 2) := by decide +kernel
theorem dX6_hides_67 : decode cX6_hides 67 = .ok (.ireturn, 1) := by decide +kernel
theorem dX6_hides_68 : decode cX6_hides 68 = .ok (.iload_n 2, 1) := by decide +kernel
theorem dX6_hides_69 : decode cX6_hides 69 = .ok (.iconst (-1), 1) := by decide +kernel
theorem dX6_hides_70 : decode cX6_hides 70 = .ok (.if_icmp .eq 21, 3) := by decide +kernel
theorem dX6_hides_73 : decode cX6_hides 73 = .ok (.aload_n 0, 1) := by decide +kernel
theorem dX6_hides_74 : decode cX6_hides 74 = .ok (.getfield 26, 3) := by decide +kernel
theorem dX6_hides_77 : decode cX6_hides 77 = .ok (.iload_n 2, 1) := by decide +kernel
theorem dX6_hides_78 : decode cX6_hides 78 = .ok (.iload_n 1, 1) := by decide +kernel
theorem dX6_hides_79 : decode cX6_hides 79 = .ok (.invokevirtual 167, 3) := by decide +kernel
theorem dX6_hides_82 : decode cX6_hides 82 = .ok (.ifCond .eq 7, 3) := by decide +kernel
theorem dX6_hides_85 : decode cX6_hides 85 = .ok (.iconst 1, 1) := by decide +kernel
theorem dX6_hides_86 : decode cX6_hides 86 = .ok (.goto 4, 3) := by decide +kernel
theorem dX6_hides_89 : decode cX6_hides 89 = .ok (.iconst 0, 1) := by decide +kernel
theorem dX6_hides_90 : decode cX6_hides 90 = .ok (.ireturn, 1) := by decide +kernel
theorem dX6_hides_91 : decode cX6_hides 91 = .ok (.iconst 0, 1) := by decide +kernel
theorem dX6_hides_92 : decode cX6_hides 92 = .ok (.istore_n 3, 1) := by decide +kernel
theorem dX6_hides_93 : decode cX6_hides 93 = .ok (.iconst 0, 1) := by decide +kernel
theorem dX6_hides_94 : decode cX6_hides 94 = .ok (.istore 4, 2) := by decide +kernel
theorem dX6_hides_96 : decode cX6_hides 96 = .ok (.iload 4, 2) := by decide +kernel
theorem dX6_hides_98 : decode cX6_hides 98 = .ok (.aload_n 0, 1) := by decide +kernel
theorem dX6_hides_99 : decode cX6_hides 99 = .ok (.getfield 26, 3) := by decide +kernel
theorem dX6_hides_102 : decode cX6_hides 102 = .ok (.getfield 80, 3) := by decide +kernel
theorem dX6_hides_105 : decode cX6_hides 105 = .ok (.if_icmp .ge 31, 3) := by decide +kernel
theorem dX6_hides_108 : decode cX6_hides 108 = .ok (.iload 4, 2) := by decide +kernel
theorem dX6_hides_110 : decode cX6_hides 110 = .ok (.iload_n 1, 1) := by decide +kernel
theorem dX6_hides_111 : decode cX6_hides 111 = .ok (.if_icmp .eq 19, 3) := by decide +kernel
theorem dX6_hides_114 : decode cX6_hides 114 = .ok (.aload_n 0, 1) := by decide +kernel
theorem dX6_hides_115 : decode cX6_hides 115 = .ok (.getfield 26, 3) := by decide +kernel
theorem dX6_hides_118 : decode cX6_hides 118 = .ok (.iload 4, 2) := by decide +kernel
theorem dX6_hides_120 : decode cX6_hides 120 = .ok (.iload_n 1, 1) := by decide +kernel
theorem dX6_hides_121 : decode cX6_hides 121 = .ok (.invokevirtual 167, 3) := by decide +kernel
theorem dX6_hides_124 : decode cX6_hides 124 = .ok (.ifCond .eq 6, 3) := by decide +kernel
theorem dX6_hides_127 : decode cX6_hides 127 = .ok (.iinc 3 1, 3) := by decide +kernel
theorem dX6_hides_130 : decode cX6_hides 130 = .ok (.iinc 4 1, 3) := by decide +kernel
theorem dX6_hides_133 : decode cX6_hides 133 = .ok (.goto (-37), 3) := by decide +kernel
theorem dX6_hides_136 : decode cX6_hides 136 = .ok (.iload_n 3, 1) := by decide +kernel
theorem dX6_hides_137 : decode cX6_hides 137 = .ok (.ireturn, 1) := by decide +kernel
theorem dX6_bunch_0 : decode cX6_bunch 0 = .ok (.iload_n 1, 1) := by decide +kernel
theorem dX6_bunch_1 : decode cX6_bunch 1 = .ok (.iconst (-1), 1) := by decide +kernel
theorem dX6_bunch_2 : decode cX6_bunch 2 = .ok (.if_icmp .lt 12, 3) := by decide +kernel
theorem dX6_bunch_5 : decode cX6_bunch 5 = .ok (.iload_n 2, 1) := by decide +kernel
theorem dX6_bunch_6 : decode cX6_bunch 6 = .ok (.ifCond .lt 8, 3) := by decide +kernel
theorem dX6_bunch_9 : decode cX6_bunch 9 = .ok (.iload_n 2, 1) := by decide +kernel
theorem dX6_bunch_10 : decode cX6_bunch 10 = .ok (.iconst 2, 1) := by decide +kernel
theorem dX6_bunch_11 : decode cX6_bunch 11 = .ok (.if_icmp .le 5, 3) := by decide +kernel
theorem dX6_bunch_14 : decode cX6_bunch 14 = .ok (.iconst (-1), 1) := by decide +kernel
theorem dX6_bunch_15 : decode cX6_bunch 15 = .ok (.ireturn, 1) := by decide +kernel
theorem dX6_bunch_16 : decode cX6_bunch 16 = .ok (.aload_n 0, 1) := by decide +kernel
theorem dX6_bunch_17 : decode cX6_bunch 17 = .ok (.getfield 33, 3) := by decide +kernel
theorem dX6_bunch_20 : decode cX6_bunch 20 = .ok (.aload_n 0, 1) := by decide +kernel
theorem dX6_bunch_21 : decode cX6_bunch 21 = .ok (.getfield 26, 3) := by decide +kernel
theorem dX6_bunch_24 : decode cX6_bunch 24 = .ok (.invokevirtual 157, 3) := by decide +kernel
theorem dX6_bunch_27 : decode cX6_bunch 27 = .ok (.iload_n 1, 1) := by decide +kernel
theorem dX6_bunch_28 : decode cX6_bunch 28 = .ok (.iconst (-1), 1) := by decide +kernel
theorem dX6_bunch_29 : decode cX6_bunch 29 = .ok (.if_icmp .ne 11, 3) := by decide +kernel
theorem dX6_bunch_32 : decode cX6_bunch 32 = .ok (.aload_n 0, 1) := by decide +kernel
theorem dX6_bunch_33 : decode cX6_bunch 33 = .ok (.getfield 33, 3) := by decide +kernel
theorem dX6_bunch_36 : decode cX6_bunch 36 = .ok (.getfield 170, 3) := by decide +kernel
theorem dX6_bunch_39 : decode cX6_bunch 39 = .ok (.ireturn, 1) := by decide +kernel
theorem dX6_bunch_40 : decode cX6_bunch 40 = .ok (.iload_n 1, 1) := by decide +kernel
theorem dX6_bunch_41 : decode cX6_bunch 41 = .ok (.aload_n 0, 1) := by decide +kernel
theorem dX6_bunch_42 : decode cX6_bunch 42 = .ok (.getfield 33, 3) := by decide +kernel
theorem dX6_bunch_45 : decode cX6_bunch 45 = .ok (.getfield 170, 3) := by decide +kernel
theorem dX6_bunch_48 : decode cX6_bunch 48 = .ok (.if_icmp .ge 9, 3) := by decide +kernel
theorem dX6_bunch_51 : decode cX6_bunch 51 = .ok (.iload_n 1, 1) := by decide +kernel
theorem dX6_bunch_52 : decode cX6_bunch 52 = .ok (.bipush 48, 2) := by decide +kernel
theorem dX6_bunch_54 : decode cX6_bunch 54 = .ok (.if_icmp .lt 6, 3) := by decide +kernel
theorem dX6_bunch_57 : decode cX6_bunch 57 = .ok (.bipush (-4), 2) := by decide +kernel
theorem dX6_bunch_59 : decode cX6_bunch 59 = .ok (.ireturn, 1) := by decide +kernel
theorem dX6_bunch_60 : decode cX6_bunch 60 = .ok (.iload_n 2, 1) := by decide +kernel
theorem dX6_bunch_61 : decode cX6_bunch 61 = .ok (.ifCond .ne 15, 3) := by decide +kernel
theorem dX6_bunch_64 : decode cX6_bunch 64 = .ok (.aload_n 0, 1) := by decide +kernel
theorem dX6_bunch_65 : decode cX6_bunch 65 = .ok (.getfield 33, 3) := by decide +kernel
theorem dX6_bunch_68 : decode cX6_bunch 68 = .ok (.getfield 173, 3) := by decide +kernel
theorem dX6_bunch_71 : decode cX6_bunch 71 = .ok (.iload_n 1, 1) := by decide +kernel
theorem dX6_bunch_72 : decode cX6_bunch 72 = .ok (.iaload, 1) := by decide +kernel
theorem dX6_bunch_73 : decode cX6_bunch 73 = .ok (.goto 29, 3) := by decide +kernel
theorem dX6_bunch_76 : decode cX6_bunch 76 = .ok (.iload_n 2, 1) := by decide +kernel
theorem dX6_bunch_77 : decode cX6_bunch 77 = .ok (.iconst 1, 1) := by decide +kernel
theorem dX6_bunch_78 : decode cX6_bunch 78 = .ok (.if_icmp .ne 15, 3) := by decide +kernel
theorem dX6_bunch_81 : decode cX6_bunch 81 = .ok (.aload_n 0, 1) := by decide +kernel
theorem dX6_bunch_82 : decode cX6_bunch 82 = .ok (.getfield 33, 3) := by decide +kernel
theorem dX6_bunch_85 : decode cX6_bunch 85 = .ok (.getfield 176, 3) := by decide +kernel
theorem dX6_bunch_88 : decode cX6_bunch 88 = .ok (.iload_n 1, 1) := by decide +kernel
theorem dX6_bunch_89 : decode cX6_bunch 89 = .ok (.iaload, 1) := by decide +kernel
theorem dX6_bunch_90 : decode cX6_bunch 90 = .ok (.goto 12, 3) := by decide +kernel
theorem dX6_bunch_93 : decode cX6_bunch 93 = .ok (.aload_n 0, 1) := by decide +kernel
theorem dX6_bunch_94 : decode cX6_bunch 94 = .ok (.getfield 33, 3) := by decide +kernel
theorem dX6_bunch_97 : decode cX6_bunch 97 = .ok (.getfield 179, 3) := by decide +kernel
theorem dX6_bunch_100 : decode cX6_bunch 100 = .ok (.iload_n 1, 1) := by decide +kernel
theorem dX6_bunch_101 : decode cX6_bunch 101 = .ok (.iaload, 1) := by decide +kernel
theorem dX6_bunch_102 : decode cX6_bunch 102 = .ok (.ireturn, 1) := by decide +kernel
theorem dX6_enough_0 : decode cX6_enough 0 = .ok (.iload_n 1, 1) := by decide +kernel
theorem dX6_enough_1 : decode cX6_enough 1 = .ok (.ifCond .lt 9, 3) := by decide +kernel
theorem dX6_enough_4 : decode cX6_enough 4 = .ok (.iload_n 1, 1) := by decide +kernel
theorem dX6_enough_5 : decode cX6_enough 5 = .ok (.bipush 48, 2) := by decide +kernel
theorem dX6_enough_7 : decode cX6_enough 7 = .ok (.if_icmp .le 5, 3) := by decide +kernel
theorem dX6_enough_10 : decode cX6_enough 10 = .ok (.iconst (-1), 1) := by decide +kernel
theorem dX6_enough_11 : decode cX6_enough 11 = .ok (.ireturn, 1) := by decide +kernel
theorem dX6_enough_12 : decode cX6_enough 12 = .ok (.aload_n 0, 1) := by decide +kernel
theorem dX6_enough_13 : decode cX6_enough 13 = .ok (.getfield 33, 3) := by decide +kernel
theorem dX6_enough_16 : decode cX6_enough 16 = .ok (.aload_n 0, 1) := by decide +kernel
theorem dX6_enough_17 : decode cX6_enough 17 = .ok (.getfield 26, 3) := by decide +kernel
theorem dX6_enough_20 : decode cX6_enough 20 = .ok (.invokevirtual 157, 3) := by decide +kernel
theorem dX6_enough_23 : decode cX6_enough 23 = .ok (.iconst 1, 1) := by decide +kernel
theorem dX6_enough_24 : decode cX6_enough 24 = .ok (.istore_n 2, 1) := by decide +kernel
theorem dX6_enough_25 : decode cX6_enough 25 = .ok (.iload_n 2, 1) := by decide +kernel
theorem dX6_enough_26 : decode cX6_enough 26 = .ok (.bipush 40, 2) := by decide +kernel
theorem dX6_enough_28 : decode cX6_enough 28 = .ok (.if_icmp .gt 27, 3) := by decide +kernel
theorem dX6_enough_31 : decode cX6_enough 31 = .ok (.aload_n 0, 1) := by decide +kernel
theorem dX6_enough_32 : decode cX6_enough 32 = .ok (.getfield 33, 3) := by decide +kernel
theorem dX6_enough_35 : decode cX6_enough 35 = .ok (.iload_n 2, 1) := by decide +kernel
theorem dX6_enough_36 : decode cX6_enough 36 = .ok (.aload_n 0, 1) := by decide +kernel
theorem dX6_enough_37 : decode cX6_enough 37 = .ok (.getfield 26, 3) := by decide +kernel
theorem dX6_enough_40 : decode cX6_enough 40 = .ok (.invokevirtual 182, 3) := by decide +kernel
theorem dX6_enough_43 : decode cX6_enough 43 = .ok (.iload_n 1, 1) := by decide +kernel
theorem dX6_enough_44 : decode cX6_enough 44 = .ok (.if_icmp .gt 5, 3) := by decide +kernel
theorem dX6_enough_47 : decode cX6_enough 47 = .ok (.iload_n 2, 1) := by decide +kernel
theorem dX6_enough_48 : decode cX6_enough 48 = .ok (.ireturn, 1) := by decide +kernel
theorem dX6_enough_49 : decode cX6_enough 49 = .ok (.iinc 2 1, 3) := by decide +kernel
theorem dX6_enough_52 : decode cX6_enough 52 = .ok (.goto (-27), 3) := by decide +kernel
theorem dX6_enough_55 : decode cX6_enough 55 = .ok (.bipush (-4), 2) := by decide +kernel
theorem dX6_enough_57 : decode cX6_enough 57 = .ok (.ireturn, 1) := by decide +kernel
theorem dX6_noise_0 : decode cX6_noise 0 = .ok (.iload_n 1, 1) := by decide +kernel
theorem dX6_noise_1 : decode cX6_noise 1 = .ok (.invokestatic 91, 3) := by decide +kernel
theorem dX6_noise_4 : decode cX6_noise 4 = .ok (.ifCond .ne 5, 3) := by decide +kernel
theorem dX6_noise_7 : decode cX6_noise 7 = .ok (.iconst (-1), 1) := by decide +kernel
theorem dX6_noise_8 : decode cX6_noise 8 = .ok (.ireturn, 1) := by decide +kernel
theorem dX6_noise_9 : decode cX6_noise 9 = .ok (.iload_n 1, 1) := by decide +kernel
theorem dX6_noise_10 : decode cX6_noise 10 = .ok (.bipush 8, 2) := by decide +kernel
theorem dX6_noise_12 : decode cX6_noise 12 = .ok (.if_icmp .ge 15, 3) := by decide +kernel
theorem dX6_noise_15 : decode cX6_noise 15 = .ok (.aload_n 0, 1) := by decide +kernel
theorem dX6_noise_16 : decode cX6_noise 16 = .ok (.getfield 40, 3) := by decide +kernel
theorem dX6_noise_19 : decode cX6_noise 19 = .ok (.getfield 186, 3) := by decide +kernel
theorem dX6_noise_22 : decode cX6_noise 22 = .ok (.iload_n 1, 1) := by decide +kernel
theorem dX6_noise_23 : decode cX6_noise 23 = .ok (.iaload, 1) := by decide +kernel
theorem dX6_noise_24 : decode cX6_noise 24 = .ok (.goto 4, 3) := by decide +kernel
theorem dX6_noise_27 : decode cX6_noise 27 = .ok (.iconst 0, 1) := by decide +kernel
theorem dX6_noise_28 : decode cX6_noise 28 = .ok (.ireturn, 1) := by decide +kernel
theorem dX6_odds_0 : decode cX6_odds 0 = .ok (.iload_n 1, 1) := by decide +kernel
theorem dX6_odds_1 : decode cX6_odds 1 = .ok (.ifCond .lt 8, 3) := by decide +kernel
theorem dX6_odds_4 : decode cX6_odds 4 = .ok (.iload_n 1, 1) := by decide +kernel
theorem dX6_odds_5 : decode cX6_odds 5 = .ok (.iconst 1, 1) := by decide +kernel
theorem dX6_odds_6 : decode cX6_odds 6 = .ok (.if_icmp .le 7, 3) := by decide +kernel
theorem dX6_odds_9 : decode cX6_odds 9 = .ok (.ldc2_w 189, 3) := by decide +kernel
theorem dX6_odds_12 : decode cX6_odds 12 = .ok (.lreturn, 1) := by decide +kernel
theorem dX6_odds_13 : decode cX6_odds 13 = .ok (.aload_n 0, 1) := by decide +kernel
theorem dX6_odds_14 : decode cX6_odds 14 = .ok (.getfield 40, 3) := by decide +kernel
theorem dX6_odds_17 : decode cX6_odds 17 = .ok (.aload_n 0, 1) := by decide +kernel
theorem dX6_odds_18 : decode cX6_odds 18 = .ok (.getfield 26, 3) := by decide +kernel
theorem dX6_odds_21 : decode cX6_odds 21 = .ok (.getfield 119, 3) := by decide +kernel
theorem dX6_odds_24 : decode cX6_odds 24 = .ok (.aload_n 0, 1) := by decide +kernel
theorem dX6_odds_25 : decode cX6_odds 25 = .ok (.getfield 26, 3) := by decide +kernel
theorem dX6_odds_28 : decode cX6_odds 28 = .ok (.getfield 125, 3) := by decide +kernel
theorem dX6_odds_31 : decode cX6_odds 31 = .ok (.invokevirtual 191, 3) := by decide +kernel
theorem dX6_odds_34 : decode cX6_odds 34 = .ok (.aload_n 0, 1) := by decide +kernel
theorem dX6_odds_35 : decode cX6_odds 35 = .ok (.getfield 40, 3) := by decide +kernel
theorem dX6_odds_38 : decode cX6_odds 38 = .ok (.aload_n 0, 1) := by decide +kernel
theorem dX6_odds_39 : decode cX6_odds 39 = .ok (.getfield 26, 3) := by decide +kernel
theorem dX6_odds_42 : decode cX6_odds 42 = .ok (.getfield 119, 3) := by decide +kernel
theorem dX6_odds_45 : decode cX6_odds 45 = .ok (.iconst 3, 1) := by decide +kernel
theorem dX6_odds_46 : decode cX6_odds 46 = .ok (.iaload, 1) := by decide +kernel
theorem dX6_odds_47 : decode cX6_odds 47 = .ok (.aload_n 0, 1) := by decide +kernel
theorem dX6_odds_48 : decode cX6_odds 48 = .ok (.getfield 26, 3) := by decide +kernel
theorem dX6_odds_51 : decode cX6_odds 51 = .ok (.getfield 119, 3) := by decide +kernel
theorem dX6_odds_54 : decode cX6_odds 54 = .ok (.iconst 4, 1) := by decide +kernel
theorem dX6_odds_55 : decode cX6_odds 55 = .ok (.iaload, 1) := by decide +kernel
theorem dX6_odds_56 : decode cX6_odds 56 = .ok (.invokevirtual 195, 3) := by decide +kernel
theorem dX6_odds_59 : decode cX6_odds 59 = .ok (.lstore_n 2, 1) := by decide +kernel
theorem dX6_odds_60 : decode cX6_odds 60 = .ok (.aload_n 0, 1) := by decide +kernel
theorem dX6_odds_61 : decode cX6_odds 61 = .ok (.getfield 40, 3) := by decide +kernel
theorem dX6_odds_64 : decode cX6_odds 64 = .ok (.aload_n 0, 1) := by decide +kernel
theorem dX6_odds_65 : decode cX6_odds 65 = .ok (.getfield 26, 3) := by decide +kernel
theorem dX6_odds_68 : decode cX6_odds 68 = .ok (.getfield 119, 3) := by decide +kernel
theorem dX6_odds_71 : decode cX6_odds 71 = .ok (.iconst 0, 1) := by decide +kernel
theorem dX6_odds_72 : decode cX6_odds 72 = .ok (.iaload, 1) := by decide +kernel
theorem dX6_odds_73 : decode cX6_odds 73 = .ok (.invokevirtual 199, 3) := by decide +kernel
theorem dX6_odds_76 : decode cX6_odds 76 = .ok (.lstore 4, 2) := by decide +kernel
theorem dX6_odds_78 : decode cX6_odds 78 = .ok (.lload_n 2, 1) := by decide +kernel
theorem dX6_odds_79 : decode cX6_odds 79 = .ok (.lload 4, 2) := by decide +kernel
theorem dX6_odds_81 : decode cX6_odds 81 = .ok (.invokestatic 203, 3) := by decide +kernel
theorem dX6_odds_84 : decode cX6_odds 84 = .ok (.lstore 6, 2) := by decide +kernel
theorem dX6_odds_86 : decode cX6_odds 86 = .ok (.lload 6, 2) := by decide +kernel
theorem dX6_odds_88 : decode cX6_odds 88 = .ok (.lconst 0, 1) := by decide +kernel
theorem dX6_odds_89 : decode cX6_odds 89 = .ok (.lcmp, 1) := by decide +kernel
theorem dX6_odds_90 : decode cX6_odds 90 = .ok (.ifCond .gt 7, 3) := by decide +kernel
theorem dX6_odds_93 : decode cX6_odds 93 = .ok (.ldc2_w 189, 3) := by decide +kernel
theorem dX6_odds_96 : decode cX6_odds 96 = .ok (.lreturn, 1) := by decide +kernel
theorem dX6_odds_97 : decode cX6_odds 97 = .ok (.iload_n 1, 1) := by decide +kernel
theorem dX6_odds_98 : decode cX6_odds 98 = .ok (.ifCond .ne 7, 3) := by decide +kernel
theorem dX6_odds_101 : decode cX6_odds 101 = .ok (.lload_n 2, 1) := by decide +kernel
theorem dX6_odds_102 : decode cX6_odds 102 = .ok (.goto 5, 3) := by decide +kernel
theorem dX6_odds_105 : decode cX6_odds 105 = .ok (.lload 4, 2) := by decide +kernel
theorem dX6_odds_107 : decode cX6_odds 107 = .ok (.lload 6, 2) := by decide +kernel
theorem dX6_odds_109 : decode cX6_odds 109 = .ok (.ldiv, 1) := by decide +kernel
theorem dX6_odds_110 : decode cX6_odds 110 = .ok (.lreturn, 1) := by decide +kernel
theorem dX6_factor_0 : decode cX6_factor 0 = .ok (.iload_n 1, 1) := by decide +kernel
theorem dX6_factor_1 : decode cX6_factor 1 = .ok (.iconst 1, 1) := by decide +kernel
theorem dX6_factor_2 : decode cX6_factor 2 = .ok (.if_icmp .lt 20, 3) := by decide +kernel
theorem dX6_factor_5 : decode cX6_factor 5 = .ok (.iload_n 1, 1) := by decide +kernel
theorem dX6_factor_6 : decode cX6_factor 6 = .ok (.ldc 207, 2) := by decide +kernel
theorem dX6_factor_8 : decode cX6_factor 8 = .ok (.if_icmp .gt 14, 3) := by decide +kernel
theorem dX6_factor_11 : decode cX6_factor 11 = .ok (.iload_n 2, 1) := by decide +kernel
theorem dX6_factor_12 : decode cX6_factor 12 = .ok (.iconst 1, 1) := by decide +kernel
theorem dX6_factor_13 : decode cX6_factor 13 = .ok (.if_icmp .lt 9, 3) := by decide +kernel
theorem dX6_factor_16 : decode cX6_factor 16 = .ok (.iload_n 2, 1) := by decide +kernel
theorem dX6_factor_17 : decode cX6_factor 17 = .ok (.ldc 207, 2) := by decide +kernel
theorem dX6_factor_19 : decode cX6_factor 19 = .ok (.if_icmp .le 5, 3) := by decide +kernel
theorem dX6_factor_22 : decode cX6_factor 22 = .ok (.iconst (-1), 1) := by decide +kernel
theorem dX6_factor_23 : decode cX6_factor 23 = .ok (.ireturn, 1) := by decide +kernel
theorem dX6_factor_24 : decode cX6_factor 24 = .ok (.aload_n 0, 1) := by decide +kernel
theorem dX6_factor_25 : decode cX6_factor 25 = .ok (.getfield 40, 3) := by decide +kernel
theorem dX6_factor_28 : decode cX6_factor 28 = .ok (.aload_n 0, 1) := by decide +kernel
theorem dX6_factor_29 : decode cX6_factor 29 = .ok (.getfield 26, 3) := by decide +kernel
theorem dX6_factor_32 : decode cX6_factor 32 = .ok (.getfield 119, 3) := by decide +kernel
theorem dX6_factor_35 : decode cX6_factor 35 = .ok (.aload_n 0, 1) := by decide +kernel
theorem dX6_factor_36 : decode cX6_factor 36 = .ok (.getfield 26, 3) := by decide +kernel
theorem dX6_factor_39 : decode cX6_factor 39 = .ok (.getfield 125, 3) := by decide +kernel
theorem dX6_factor_42 : decode cX6_factor 42 = .ok (.invokevirtual 191, 3) := by decide +kernel
theorem dX6_factor_45 : decode cX6_factor 45 = .ok (.aload_n 0, 1) := by decide +kernel
theorem dX6_factor_46 : decode cX6_factor 46 = .ok (.getfield 40, 3) := by decide +kernel
theorem dX6_factor_49 : decode cX6_factor 49 = .ok (.aload_n 0, 1) := by decide +kernel
theorem dX6_factor_50 : decode cX6_factor 50 = .ok (.getfield 26, 3) := by decide +kernel
theorem dX6_factor_53 : decode cX6_factor 53 = .ok (.getfield 119, 3) := by decide +kernel
theorem dX6_factor_56 : decode cX6_factor 56 = .ok (.iconst 0, 1) := by decide +kernel
theorem dX6_factor_57 : decode cX6_factor 57 = .ok (.iaload, 1) := by decide +kernel
theorem dX6_factor_58 : decode cX6_factor 58 = .ok (.invokevirtual 199, 3) := by decide +kernel
theorem dX6_factor_61 : decode cX6_factor 61 = .ok (.lstore_n 3, 1) := by decide +kernel
theorem dX6_factor_62 : decode cX6_factor 62 = .ok (.iconst 1, 1) := by decide +kernel
theorem dX6_factor_63 : decode cX6_factor 63 = .ok (.istore 5, 2) := by decide +kernel
theorem dX6_factor_65 : decode cX6_factor 65 = .ok (.iload 5, 2) := by decide +kernel
theorem dX6_factor_67 : decode cX6_factor 67 = .ok (.bipush 40, 2) := by decide +kernel
theorem dX6_factor_69 : decode cX6_factor 69 = .ok (.if_icmp .gt 41, 3) := by decide +kernel
theorem dX6_factor_72 : decode cX6_factor 72 = .ok (.aload_n 0, 1) := by decide +kernel
theorem dX6_factor_73 : decode cX6_factor 73 = .ok (.getfield 40, 3) := by decide +kernel
theorem dX6_factor_76 : decode cX6_factor 76 = .ok (.iload 5, 2) := by decide +kernel
theorem dX6_factor_78 : decode cX6_factor 78 = .ok (.aload_n 0, 1) := by decide +kernel
theorem dX6_factor_79 : decode cX6_factor 79 = .ok (.getfield 26, 3) := by decide +kernel
theorem dX6_factor_82 : decode cX6_factor 82 = .ok (.getfield 119, 3) := by decide +kernel
theorem dX6_factor_85 : decode cX6_factor 85 = .ok (.iconst 4, 1) := by decide +kernel
theorem dX6_factor_86 : decode cX6_factor 86 = .ok (.iaload, 1) := by decide +kernel
theorem dX6_factor_87 : decode cX6_factor 87 = .ok (.invokevirtual 195, 3) := by decide +kernel
theorem dX6_factor_90 : decode cX6_factor 90 = .ok (.iload_n 2, 1) := by decide +kernel
theorem dX6_factor_91 : decode cX6_factor 91 = .ok (.i2l, 1) := by decide +kernel
theorem dX6_factor_92 : decode cX6_factor 92 = .ok (.lload_n 3, 1) := by decide +kernel
theorem dX6_factor_93 : decode cX6_factor 93 = .ok (.iload_n 1, 1) := by decide +kernel
theorem dX6_factor_94 : decode cX6_factor 94 = .ok (.i2l, 1) := by decide +kernel
theorem dX6_factor_95 : decode cX6_factor 95 = .ok (.invokestatic 208, 3) := by decide +kernel
theorem dX6_factor_98 : decode cX6_factor 98 = .ok (.ifCond .eq 6, 3) := by decide +kernel
theorem dX6_factor_101 : decode cX6_factor 101 = .ok (.iload 5, 2) := by decide +kernel
theorem dX6_factor_103 : decode cX6_factor 103 = .ok (.ireturn, 1) := by decide +kernel
theorem dX6_factor_104 : decode cX6_factor 104 = .ok (.iinc 5 1, 3) := by decide +kernel
theorem dX6_factor_107 : decode cX6_factor 107 = .ok (.goto (-42), 3) := by decide +kernel
theorem dX6_factor_110 : decode cX6_factor 110 = .ok (.bipush (-4), 2) := by decide +kernel
theorem dX6_factor_112 : decode cX6_factor 112 = .ok (.ireturn, 1) := by decide +kernel
theorem dX6_drawn_0 : decode cX6_drawn 0 = .ok (.iload_n 1, 1) := by decide +kernel
theorem dX6_drawn_1 : decode cX6_drawn 1 = .ok (.ifCond .ge 5, 3) := by decide +kernel
theorem dX6_drawn_4 : decode cX6_drawn 4 = .ok (.iconst (-1), 1) := by decide +kernel
theorem dX6_drawn_5 : decode cX6_drawn 5 = .ok (.ireturn, 1) := by decide +kernel
theorem dX6_drawn_6 : decode cX6_drawn 6 = .ok (.aload_n 0, 1) := by decide +kernel
theorem dX6_drawn_7 : decode cX6_drawn 7 = .ok (.getfield 33, 3) := by decide +kernel
theorem dX6_drawn_10 : decode cX6_drawn 10 = .ok (.aload_n 0, 1) := by decide +kernel
theorem dX6_drawn_11 : decode cX6_drawn 11 = .ok (.getfield 26, 3) := by decide +kernel
theorem dX6_drawn_14 : decode cX6_drawn 14 = .ok (.invokevirtual 157, 3) := by decide +kernel
theorem dX6_drawn_17 : decode cX6_drawn 17 = .ok (.iload_n 1, 1) := by decide +kernel
theorem dX6_drawn_18 : decode cX6_drawn 18 = .ok (.aload_n 0, 1) := by decide +kernel
theorem dX6_drawn_19 : decode cX6_drawn 19 = .ok (.getfield 26, 3) := by decide +kernel
theorem dX6_drawn_22 : decode cX6_drawn 22 = .ok (.getfield 80, 3) := by decide +kernel
theorem dX6_drawn_25 : decode cX6_drawn 25 = .ok (.if_icmp .ge 30, 3) := by decide +kernel
theorem dX6_drawn_28 : decode cX6_drawn 28 = .ok (.aload_n 0, 1) := by decide +kernel
theorem dX6_drawn_29 : decode cX6_drawn 29 = .ok (.getfield 26, 3) := by decide +kernel
theorem dX6_drawn_32 : decode cX6_drawn 32 = .ok (.getfield 105, 3) := by decide +kernel
theorem dX6_drawn_35 : decode cX6_drawn 35 = .ok (.iload_n 1, 1) := by decide +kernel
theorem dX6_drawn_36 : decode cX6_drawn 36 = .ok (.iaload, 1) := by decide +kernel
theorem dX6_drawn_37 : decode cX6_drawn 37 = .ok (.iconst 1, 1) := by decide +kernel
theorem dX6_drawn_38 : decode cX6_drawn 38 = .ok (.if_icmp .ne 8, 3) := by decide +kernel
theorem dX6_drawn_41 : decode cX6_drawn 41 = .ok (.bipush 120, 2) := by decide +kernel
theorem dX6_drawn_43 : decode cX6_drawn 43 = .ok (.goto 11, 3) := by decide +kernel
theorem dX6_drawn_46 : decode cX6_drawn 46 = .ok (.aload_n 0, 1) := by decide +kernel
theorem dX6_drawn_47 : decode cX6_drawn 47 = .ok (.getfield 33, 3) := by decide +kernel
theorem dX6_drawn_50 : decode cX6_drawn 50 = .ok (.iload_n 1, 1) := by decide +kernel
theorem dX6_drawn_51 : decode cX6_drawn 51 = .ok (.invokevirtual 212, 3) := by decide +kernel
theorem dX6_drawn_54 : decode cX6_drawn 54 = .ok (.ireturn, 1) := by decide +kernel
theorem dX6_drawn_55 : decode cX6_drawn 55 = .ok (.aload_n 0, 1) := by decide +kernel
theorem dX6_drawn_56 : decode cX6_drawn 56 = .ok (.iload_n 1, 1) := by decide +kernel
theorem dX6_drawn_57 : decode cX6_drawn 57 = .ok (.aload_n 0, 1) := by decide +kernel
theorem dX6_drawn_58 : decode cX6_drawn 58 = .ok (.getfield 26, 3) := by decide +kernel
theorem dX6_drawn_61 : decode cX6_drawn 61 = .ok (.getfield 80, 3) := by decide +kernel
theorem dX6_drawn_64 : decode cX6_drawn 64 = .ok (.isub, 1) := by decide +kernel
theorem dX6_drawn_65 : decode cX6_drawn 65 = .ok (.invokevirtual 216, 3) := by decide +kernel
theorem dX6_drawn_68 : decode cX6_drawn 68 = .ok (.ireturn, 1) := by decide +kernel
theorem dX6_count_0 : decode cX6_count 0 = .ok (.iload_n 1, 1) := by decide +kernel
theorem dX6_count_1 : decode cX6_count 1 = .ok (.tableswitch 153 0 11 #[63, 71, 71, 71, 71, 71, 83, 91, 110, 129, 137, 145], 63) := by decide +kernel
theorem dX6_count_64 : decode cX6_count 64 = .ok (.aload_n 0, 1) := by decide +kernel
theorem dX6_count_65 : decode cX6_count 65 = .ok (.getfield 26, 3) := by decide +kernel
theorem dX6_count_68 : decode cX6_count 68 = .ok (.getfield 80, 3) := by decide +kernel
theorem dX6_count_71 : decode cX6_count 71 = .ok (.ireturn, 1) := by decide +kernel
theorem dX6_count_72 : decode cX6_count 72 = .ok (.aload_n 0, 1) := by decide +kernel
theorem dX6_count_73 : decode cX6_count 73 = .ok (.getfield 26, 3) := by decide +kernel
theorem dX6_count_76 : decode cX6_count 76 = .ok (.getfield 119, 3) := by decide +kernel
theorem dX6_count_79 : decode cX6_count 79 = .ok (.iload_n 1, 1) := by decide +kernel
theorem dX6_count_80 : decode cX6_count 80 = .ok (.iconst 1, 1) := by decide +kernel
theorem dX6_count_81 : decode cX6_count 81 = .ok (.isub, 1) := by decide +kernel
theorem dX6_count_82 : decode cX6_count 82 = .ok (.iaload, 1) := by decide +kernel
theorem dX6_count_83 : decode cX6_count 83 = .ok (.ireturn, 1) := by decide +kernel
theorem dX6_count_84 : decode cX6_count 84 = .ok (.aload_n 0, 1) := by decide +kernel
theorem dX6_count_85 : decode cX6_count 85 = .ok (.getfield 26, 3) := by decide +kernel
theorem dX6_count_88 : decode cX6_count 88 = .ok (.getfield 125, 3) := by decide +kernel
theorem dX6_count_91 : decode cX6_count 91 = .ok (.ireturn, 1) := by decide +kernel
theorem dX6_count_92 : decode cX6_count 92 = .ok (.aload_n 0, 1) := by decide +kernel
theorem dX6_count_93 : decode cX6_count 93 = .ok (.getfield 33, 3) := by decide +kernel
theorem dX6_count_96 : decode cX6_count 96 = .ok (.aload_n 0, 1) := by decide +kernel
theorem dX6_count_97 : decode cX6_count 97 = .ok (.getfield 26, 3) := by decide +kernel
theorem dX6_count_100 : decode cX6_count 100 = .ok (.invokevirtual 157, 3) := by decide +kernel
theorem dX6_count_103 : decode cX6_count 103 = .ok (.aload_n 0, 1) := by decide +kernel
theorem dX6_count_104 : decode cX6_count 104 = .ok (.getfield 33, 3) := by decide +kernel
theorem dX6_count_107 : decode cX6_count 107 = .ok (.getfield 219, 3) := by decide +kernel
theorem dX6_count_110 : decode cX6_count 110 = .ok (.ireturn, 1) := by decide +kernel
theorem dX6_count_111 : decode cX6_count 111 = .ok (.aload_n 0, 1) := by decide +kernel
theorem dX6_count_112 : decode cX6_count 112 = .ok (.getfield 33, 3) := by decide +kernel
theorem dX6_count_115 : decode cX6_count 115 = .ok (.aload_n 0, 1) := by decide +kernel
theorem dX6_count_116 : decode cX6_count 116 = .ok (.getfield 26, 3) := by decide +kernel
theorem dX6_count_119 : decode cX6_count 119 = .ok (.invokevirtual 157, 3) := by decide +kernel
theorem dX6_count_122 : decode cX6_count 122 = .ok (.aload_n 0, 1) := by decide +kernel
theorem dX6_count_123 : decode cX6_count 123 = .ok (.getfield 33, 3) := by decide +kernel
theorem dX6_count_126 : decode cX6_count 126 = .ok (.getfield 170, 3) := by decide +kernel
theorem dX6_count_129 : decode cX6_count 129 = .ok (.ireturn, 1) := by decide +kernel
theorem dX6_count_130 : decode cX6_count 130 = .ok (.aload_n 0, 1) := by decide +kernel
theorem dX6_count_131 : decode cX6_count 131 = .ok (.getfield 26, 3) := by decide +kernel
theorem dX6_count_134 : decode cX6_count 134 = .ok (.invokevirtual 111, 3) := by decide +kernel
theorem dX6_count_137 : decode cX6_count 137 = .ok (.ireturn, 1) := by decide +kernel
theorem dX6_count_138 : decode cX6_count 138 = .ok (.aload_n 0, 1) := by decide +kernel
theorem dX6_count_139 : decode cX6_count 139 = .ok (.getfield 47, 3) := by decide +kernel
theorem dX6_count_142 : decode cX6_count 142 = .ok (.getfield 86, 3) := by decide +kernel
theorem dX6_count_145 : decode cX6_count 145 = .ok (.ireturn, 1) := by decide +kernel
theorem dX6_count_146 : decode cX6_count 146 = .ok (.aload_n 0, 1) := by decide +kernel
theorem dX6_count_147 : decode cX6_count 147 = .ok (.getfield 10, 3) := by decide +kernel
theorem dX6_count_150 : decode cX6_count 150 = .ok (.getfield 65, 3) := by decide +kernel
theorem dX6_count_153 : decode cX6_count 153 = .ok (.ireturn, 1) := by decide +kernel
theorem dX6_count_154 : decode cX6_count 154 = .ok (.iconst (-1), 1) := by decide +kernel
theorem dX6_count_155 : decode cX6_count 155 = .ok (.ireturn, 1) := by decide +kernel
theorem dX6_letterBehindCells_0 : decode cX6_letterBehindCells 0 = .ok (.iload_n 1, 1) := by decide +kernel
theorem dX6_letterBehindCells_1 : decode cX6_letterBehindCells 1 = .ok (.ifCond .ne 6, 3) := by decide +kernel
theorem dX6_letterBehindCells_4 : decode cX6_letterBehindCells 4 = .ok (.bipush 61, 2) := by decide +kernel
theorem dX6_letterBehindCells_6 : decode cX6_letterBehindCells 6 = .ok (.ireturn, 1) := by decide +kernel
theorem dX6_letterBehindCells_7 : decode cX6_letterBehindCells 7 = .ok (.iconst 1, 1) := by decide +kernel
theorem dX6_letterBehindCells_8 : decode cX6_letterBehindCells 8 = .ok (.aload_n 0, 1) := by decide +kernel
theorem dX6_letterBehindCells_9 : decode cX6_letterBehindCells 9 = .ok (.getfield 33, 3) := by decide +kernel
theorem dX6_letterBehindCells_12 : decode cX6_letterBehindCells 12 = .ok (.getfield 219, 3) := by decide +kernel
theorem dX6_letterBehindCells_15 : decode cX6_letterBehindCells 15 = .ok (.invokestatic 222, 3) := by decide +kernel
theorem dX6_letterBehindCells_18 : decode cX6_letterBehindCells 18 = .ok (.iadd, 1) := by decide +kernel
theorem dX6_letterBehindCells_19 : decode cX6_letterBehindCells 19 = .ok (.istore_n 2, 1) := by decide +kernel
theorem dX6_letterBehindCells_20 : decode cX6_letterBehindCells 20 = .ok (.iload_n 1, 1) := by decide +kernel
theorem dX6_letterBehindCells_21 : decode cX6_letterBehindCells 21 = .ok (.iload_n 2, 1) := by decide +kernel
theorem dX6_letterBehindCells_22 : decode cX6_letterBehindCells 22 = .ok (.if_icmp .ge 19, 3) := by decide +kernel
theorem dX6_letterBehindCells_25 : decode cX6_letterBehindCells 25 = .ok (.aload_n 0, 1) := by decide +kernel
theorem dX6_letterBehindCells_26 : decode cX6_letterBehindCells 26 = .ok (.getfield 33, 3) := by decide +kernel
theorem dX6_letterBehindCells_29 : decode cX6_letterBehindCells 29 = .ok (.getfield 219, 3) := by decide +kernel
theorem dX6_letterBehindCells_32 : decode cX6_letterBehindCells 32 = .ok (.iload_n 2, 1) := by decide +kernel
theorem dX6_letterBehindCells_33 : decode cX6_letterBehindCells 33 = .ok (.iconst 1, 1) := by decide +kernel
theorem dX6_letterBehindCells_34 : decode cX6_letterBehindCells 34 = .ok (.isub, 1) := by decide +kernel
theorem dX6_letterBehindCells_35 : decode cX6_letterBehindCells 35 = .ok (.iload_n 1, 1) := by decide +kernel
theorem dX6_letterBehindCells_36 : decode cX6_letterBehindCells 36 = .ok (.isub, 1) := by decide +kernel
theorem dX6_letterBehindCells_37 : decode cX6_letterBehindCells 37 = .ok (.invokestatic 225, 3) := by decide +kernel
theorem dX6_letterBehindCells_40 : decode cX6_letterBehindCells 40 = .ok (.ireturn, 1) := by decide +kernel
theorem dX6_letterBehindCells_41 : decode cX6_letterBehindCells 41 = .ok (.iload_n 1, 1) := by decide +kernel
theorem dX6_letterBehindCells_42 : decode cX6_letterBehindCells 42 = .ok (.iload_n 2, 1) := by decide +kernel
theorem dX6_letterBehindCells_43 : decode cX6_letterBehindCells 43 = .ok (.if_icmp .ne 6, 3) := by decide +kernel
theorem dX6_letterBehindCells_46 : decode cX6_letterBehindCells 46 = .ok (.bipush 32, 2) := by decide +kernel
theorem dX6_letterBehindCells_48 : decode cX6_letterBehindCells 48 = .ok (.ireturn, 1) := by decide +kernel
theorem dX6_letterBehindCells_49 : decode cX6_letterBehindCells 49 = .ok (.iload_n 2, 1) := by decide +kernel
theorem dX6_letterBehindCells_50 : decode cX6_letterBehindCells 50 = .ok (.iconst 1, 1) := by decide +kernel
theorem dX6_letterBehindCells_51 : decode cX6_letterBehindCells 51 = .ok (.iadd, 1) := by decide +kernel
theorem dX6_letterBehindCells_52 : decode cX6_letterBehindCells 52 = .ok (.aload_n 0, 1) := by decide +kernel
theorem dX6_letterBehindCells_53 : decode cX6_letterBehindCells 53 = .ok (.getfield 33, 3) := by decide +kernel
theorem dX6_letterBehindCells_56 : decode cX6_letterBehindCells 56 = .ok (.getfield 170, 3) := by decide +kernel
theorem dX6_letterBehindCells_59 : decode cX6_letterBehindCells 59 = .ok (.invokestatic 222, 3) := by decide +kernel
theorem dX6_letterBehindCells_62 : decode cX6_letterBehindCells 62 = .ok (.iadd, 1) := by decide +kernel
theorem dX6_letterBehindCells_63 : decode cX6_letterBehindCells 63 = .ok (.istore_n 3, 1) := by decide +kernel
theorem dX6_letterBehindCells_64 : decode cX6_letterBehindCells 64 = .ok (.iload_n 1, 1) := by decide +kernel
theorem dX6_letterBehindCells_65 : decode cX6_letterBehindCells 65 = .ok (.iload_n 3, 1) := by decide +kernel
theorem dX6_letterBehindCells_66 : decode cX6_letterBehindCells 66 = .ok (.if_icmp .ge 21, 3) := by decide +kernel
theorem dX6_letterBehindCells_69 : decode cX6_letterBehindCells 69 = .ok (.aload_n 0, 1) := by decide +kernel
theorem dX6_letterBehindCells_70 : decode cX6_letterBehindCells 70 = .ok (.getfield 33, 3) := by decide +kernel
theorem dX6_letterBehindCells_73 : decode cX6_letterBehindCells 73 = .ok (.getfield 170, 3) := by decide +kernel
theorem dX6_letterBehindCells_76 : decode cX6_letterBehindCells 76 = .ok (.iload_n 3, 1) := by decide +kernel
theorem dX6_letterBehindCells_77 : decode cX6_letterBehindCells 77 = .ok (.iconst 1, 1) := by decide +kernel
theorem dX6_letterBehindCells_78 : decode cX6_letterBehindCells 78 = .ok (.isub, 1) := by decide +kernel
theorem dX6_letterBehindCells_79 : decode cX6_letterBehindCells 79 = .ok (.iload_n 1, 1) := by decide +kernel
theorem dX6_letterBehindCells_80 : decode cX6_letterBehindCells 80 = .ok (.isub, 1) := by decide +kernel
theorem dX6_letterBehindCells_81 : decode cX6_letterBehindCells 81 = .ok (.invokestatic 225, 3) := by decide +kernel
theorem dX6_letterBehindCells_84 : decode cX6_letterBehindCells 84 = .ok (.goto 5, 3) := by decide +kernel
theorem dX6_letterBehindCells_87 : decode cX6_letterBehindCells 87 = .ok (.bipush (-4), 2) := by decide +kernel
theorem dX6_letterBehindCells_89 : decode cX6_letterBehindCells 89 = .ok (.ireturn, 1) := by decide +kernel
theorem dX6_figuresOf_0 : decode cX6_figuresOf 0 = .ok (.iload_n 0, 1) := by decide +kernel
theorem dX6_figuresOf_1 : decode cX6_figuresOf 1 = .ok (.bipush 10, 2) := by decide +kernel
theorem dX6_figuresOf_3 : decode cX6_figuresOf 3 = .ok (.if_icmp .ge 7, 3) := by decide +kernel
theorem dX6_figuresOf_6 : decode cX6_figuresOf 6 = .ok (.iconst 1, 1) := by decide +kernel
theorem dX6_figuresOf_7 : decode cX6_figuresOf 7 = .ok (.goto 4, 3) := by decide +kernel
theorem dX6_figuresOf_10 : decode cX6_figuresOf 10 = .ok (.iconst 2, 1) := by decide +kernel
theorem dX6_figuresOf_11 : decode cX6_figuresOf 11 = .ok (.ireturn, 1) := by decide +kernel
theorem dX6_figureOf_0 : decode cX6_figureOf 0 = .ok (.bipush 48, 2) := by decide +kernel
theorem dX6_figureOf_2 : decode cX6_figureOf 2 = .ok (.iload_n 1, 1) := by decide +kernel
theorem dX6_figureOf_3 : decode cX6_figureOf 3 = .ok (.ifCond .ne 10, 3) := by decide +kernel
theorem dX6_figureOf_6 : decode cX6_figureOf 6 = .ok (.iload_n 0, 1) := by decide +kernel
theorem dX6_figureOf_7 : decode cX6_figureOf 7 = .ok (.bipush 10, 2) := by decide +kernel
theorem dX6_figureOf_9 : decode cX6_figureOf 9 = .ok (.irem, 1) := by decide +kernel
theorem dX6_figureOf_10 : decode cX6_figureOf 10 = .ok (.goto 7, 3) := by decide +kernel
theorem dX6_figureOf_13 : decode cX6_figureOf 13 = .ok (.iload_n 0, 1) := by decide +kernel
theorem dX6_figureOf_14 : decode cX6_figureOf 14 = .ok (.bipush 10, 2) := by decide +kernel
theorem dX6_figureOf_16 : decode cX6_figureOf 16 = .ok (.idiv, 1) := by decide +kernel
theorem dX6_figureOf_17 : decode cX6_figureOf 17 = .ok (.iadd, 1) := by decide +kernel
theorem dX6_figureOf_18 : decode cX6_figureOf 18 = .ok (.ireturn, 1) := by decide +kernel
theorem dX6_isPower_0 : decode cX6_isPower 0 = .ok (.iload_n 0, 1) := by decide +kernel
theorem dX6_isPower_1 : decode cX6_isPower 1 = .ok (.ifCond .lt 13, 3) := by decide +kernel
theorem dX6_isPower_4 : decode cX6_isPower 4 = .ok (.iload_n 0, 1) := by decide +kernel
theorem dX6_isPower_5 : decode cX6_isPower 5 = .ok (.bipush 99, 2) := by decide +kernel
theorem dX6_isPower_7 : decode cX6_isPower 7 = .ok (.if_icmp .gt 7, 3) := by decide +kernel
theorem dX6_isPower_10 : decode cX6_isPower 10 = .ok (.iconst 1, 1) := by decide +kernel
theorem dX6_isPower_11 : decode cX6_isPower 11 = .ok (.goto 4, 3) := by decide +kernel
theorem dX6_isPower_14 : decode cX6_isPower 14 = .ok (.iconst 0, 1) := by decide +kernel
theorem dX6_isPower_15 : decode cX6_isPower 15 = .ok (.ireturn, 1) := by decide +kernel
theorem dX6_isLook_0 : decode cX6_isLook 0 = .ok (.iload_n 0, 1) := by decide +kernel
theorem dX6_isLook_1 : decode cX6_isLook 1 = .ok (.ifCond .lt 30, 3) := by decide +kernel
theorem dX6_isLook_4 : decode cX6_isLook 4 = .ok (.iload_n 0, 1) := by decide +kernel
theorem dX6_isLook_5 : decode cX6_isLook 5 = .ok (.iconst 4, 1) := by decide +kernel
theorem dX6_isLook_6 : decode cX6_isLook 6 = .ok (.if_icmp .gt 25, 3) := by decide +kernel
theorem dX6_isLook_9 : decode cX6_isLook 9 = .ok (.iload_n 1, 1) := by decide +kernel
theorem dX6_isLook_10 : decode cX6_isLook 10 = .ok (.getstatic 228, 3) := by decide +kernel
theorem dX6_isLook_13 : decode cX6_isLook 13 = .ok (.iload_n 0, 1) := by decide +kernel
theorem dX6_isLook_14 : decode cX6_isLook 14 = .ok (.iaload, 1) := by decide +kernel
theorem dX6_isLook_15 : decode cX6_isLook 15 = .ok (.if_icmp .lt 16, 3) := by decide +kernel
theorem dX6_isLook_18 : decode cX6_isLook 18 = .ok (.iload_n 1, 1) := by decide +kernel
theorem dX6_isLook_19 : decode cX6_isLook 19 = .ok (.getstatic 231, 3) := by decide +kernel
theorem dX6_isLook_22 : decode cX6_isLook 22 = .ok (.iload_n 0, 1) := by decide +kernel
theorem dX6_isLook_23 : decode cX6_isLook 23 = .ok (.iaload, 1) := by decide +kernel
theorem dX6_isLook_24 : decode cX6_isLook 24 = .ok (.if_icmp .gt 7, 3) := by decide +kernel
theorem dX6_isLook_27 : decode cX6_isLook 27 = .ok (.iconst 1, 1) := by decide +kernel
theorem dX6_isLook_28 : decode cX6_isLook 28 = .ok (.goto 4, 3) := by decide +kernel
theorem dX6_isLook_31 : decode cX6_isLook 31 = .ok (.iconst 0, 1) := by decide +kernel
theorem dX6_isLook_32 : decode cX6_isLook 32 = .ok (.ireturn, 1) := by decide +kernel
theorem dX6_commonDivisor_0 : decode cX6_commonDivisor 0 = .ok (.lload_n 0, 1) := by decide +kernel
theorem dX6_commonDivisor_1 : decode cX6_commonDivisor 1 = .ok (.lstore 4, 2) := by decide +kernel
theorem dX6_commonDivisor_3 : decode cX6_commonDivisor 3 = .ok (.lload_n 2, 1) := by decide +kernel
theorem dX6_commonDivisor_4 : decode cX6_commonDivisor 4 = .ok (.lstore 6, 2) := by decide +kernel
theorem dX6_commonDivisor_6 : decode cX6_commonDivisor 6 = .ok (.iconst 0, 1) := by decide +kernel
theorem dX6_commonDivisor_7 : decode cX6_commonDivisor 7 = .ok (.istore 8, 2) := by decide +kernel
theorem dX6_commonDivisor_9 : decode cX6_commonDivisor 9 = .ok (.iload 8, 2) := by decide +kernel
theorem dX6_commonDivisor_11 : decode cX6_commonDivisor 11 = .ok (.sipush 200, 3) := by decide +kernel
theorem dX6_commonDivisor_14 : decode cX6_commonDivisor 14 = .ok (.if_icmp .ge 31, 3) := by decide +kernel
theorem dX6_commonDivisor_17 : decode cX6_commonDivisor 17 = .ok (.lload 6, 2) := by decide +kernel
theorem dX6_commonDivisor_19 : decode cX6_commonDivisor 19 = .ok (.lconst 0, 1) := by decide +kernel
theorem dX6_commonDivisor_20 : decode cX6_commonDivisor 20 = .ok (.lcmp, 1) := by decide +kernel
theorem dX6_commonDivisor_21 : decode cX6_commonDivisor 21 = .ok (.ifCond .eq 24, 3) := by decide +kernel
theorem dX6_commonDivisor_24 : decode cX6_commonDivisor 24 = .ok (.lload 4, 2) := by decide +kernel
theorem dX6_commonDivisor_26 : decode cX6_commonDivisor 26 = .ok (.lload 6, 2) := by decide +kernel
theorem dX6_commonDivisor_28 : decode cX6_commonDivisor 28 = .ok (.lrem, 1) := by decide +kernel
theorem dX6_commonDivisor_29 : decode cX6_commonDivisor 29 = .ok (.lstore 9, 2) := by decide +kernel
theorem dX6_commonDivisor_31 : decode cX6_commonDivisor 31 = .ok (.lload 6, 2) := by decide +kernel
theorem dX6_commonDivisor_33 : decode cX6_commonDivisor 33 = .ok (.lstore 4, 2) := by decide +kernel
theorem dX6_commonDivisor_35 : decode cX6_commonDivisor 35 = .ok (.lload 9, 2) := by decide +kernel
theorem dX6_commonDivisor_37 : decode cX6_commonDivisor 37 = .ok (.lstore 6, 2) := by decide +kernel
theorem dX6_commonDivisor_39 : decode cX6_commonDivisor 39 = .ok (.iinc 8 1, 3) := by decide +kernel
theorem dX6_commonDivisor_42 : decode cX6_commonDivisor 42 = .ok (.goto (-33), 3) := by decide +kernel
theorem dX6_commonDivisor_45 : decode cX6_commonDivisor 45 = .ok (.lload 4, 2) := by decide +kernel
theorem dX6_commonDivisor_47 : decode cX6_commonDivisor 47 = .ok (.lreturn, 1) := by decide +kernel
theorem dX6_productIsNoMore_0 : decode cX6_productIsNoMore 0 = .ok (.bipush 26, 2) := by decide +kernel
theorem dX6_productIsNoMore_2 : decode cX6_productIsNoMore 2 = .ok (.istore 8, 2) := by decide +kernel
theorem dX6_productIsNoMore_4 : decode cX6_productIsNoMore 4 = .ok (.lconst 1, 1) := by decide +kernel
theorem dX6_productIsNoMore_5 : decode cX6_productIsNoMore 5 = .ok (.iload 8, 2) := by decide +kernel
theorem dX6_productIsNoMore_7 : decode cX6_productIsNoMore 7 = .ok (.lshl, 1) := by decide +kernel
theorem dX6_productIsNoMore_8 : decode cX6_productIsNoMore 8 = .ok (.lconst 1, 1) := by decide +kernel
theorem dX6_productIsNoMore_9 : decode cX6_productIsNoMore 9 = .ok (.lsub, 1) := by decide +kernel
theorem dX6_productIsNoMore_10 : decode cX6_productIsNoMore 10 = .ok (.lstore 9, 2) := by decide +kernel
theorem dX6_productIsNoMore_12 : decode cX6_productIsNoMore 12 = .ok (.lload_n 0, 1) := by decide +kernel
theorem dX6_productIsNoMore_13 : decode cX6_productIsNoMore 13 = .ok (.lload 9, 2) := by decide +kernel
theorem dX6_productIsNoMore_15 : decode cX6_productIsNoMore 15 = .ok (.land, 1) := by decide +kernel
theorem dX6_productIsNoMore_16 : decode cX6_productIsNoMore 16 = .ok (.lload_n 2, 1) := by decide +kernel
theorem dX6_productIsNoMore_17 : decode cX6_productIsNoMore 17 = .ok (.lmul, 1) := by decide +kernel
theorem dX6_productIsNoMore_18 : decode cX6_productIsNoMore 18 = .ok (.lstore 11, 2) := by decide +kernel
theorem dX6_productIsNoMore_20 : decode cX6_productIsNoMore 20 = .ok (.lload_n 0, 1) := by decide +kernel
theorem dX6_productIsNoMore_21 : decode cX6_productIsNoMore 21 = .ok (.iload 8, 2) := by decide +kernel
theorem dX6_productIsNoMore_23 : decode cX6_productIsNoMore 23 = .ok (.lshr, 1) := by decide +kernel
theorem dX6_productIsNoMore_24 : decode cX6_productIsNoMore 24 = .ok (.lload_n 2, 1) := by decide +kernel
theorem dX6_productIsNoMore_25 : decode cX6_productIsNoMore 25 = .ok (.lmul, 1) := by decide +kernel
theorem dX6_productIsNoMore_26 : decode cX6_productIsNoMore 26 = .ok (.lload 11, 2) := by decide +kernel
theorem dX6_productIsNoMore_28 : decode cX6_productIsNoMore 28 = .ok (.iload 8, 2) := by decide +kernel
theorem dX6_productIsNoMore_30 : decode cX6_productIsNoMore 30 = .ok (.lshr, 1) := by decide +kernel
theorem dX6_productIsNoMore_31 : decode cX6_productIsNoMore 31 = .ok (.ladd, 1) := by decide +kernel
theorem dX6_productIsNoMore_32 : decode cX6_productIsNoMore 32 = .ok (.lstore 13, 2) := by decide +kernel
theorem dX6_productIsNoMore_34 : decode cX6_productIsNoMore 34 = .ok (.lload 4, 2) := by decide +kernel
theorem dX6_productIsNoMore_36 : decode cX6_productIsNoMore 36 = .ok (.lload 9, 2) := by decide +kernel
theorem dX6_productIsNoMore_38 : decode cX6_productIsNoMore 38 = .ok (.land, 1) := by decide +kernel
theorem dX6_productIsNoMore_39 : decode cX6_productIsNoMore 39 = .ok (.lload 6, 2) := by decide +kernel
theorem dX6_productIsNoMore_41 : decode cX6_productIsNoMore 41 = .ok (.lmul, 1) := by decide +kernel
theorem dX6_productIsNoMore_42 : decode cX6_productIsNoMore 42 = .ok (.lstore 15, 2) := by decide +kernel
theorem dX6_productIsNoMore_44 : decode cX6_productIsNoMore 44 = .ok (.lload 4, 2) := by decide +kernel
theorem dX6_productIsNoMore_46 : decode cX6_productIsNoMore 46 = .ok (.iload 8, 2) := by decide +kernel
theorem dX6_productIsNoMore_48 : decode cX6_productIsNoMore 48 = .ok (.lshr, 1) := by decide +kernel
theorem dX6_productIsNoMore_49 : decode cX6_productIsNoMore 49 = .ok (.lload 6, 2) := by decide +kernel
theorem dX6_productIsNoMore_51 : decode cX6_productIsNoMore 51 = .ok (.lmul, 1) := by decide +kernel
theorem dX6_productIsNoMore_52 : decode cX6_productIsNoMore 52 = .ok (.lload 15, 2) := by decide +kernel
theorem dX6_productIsNoMore_54 : decode cX6_productIsNoMore 54 = .ok (.iload 8, 2) := by decide +kernel
theorem dX6_productIsNoMore_56 : decode cX6_productIsNoMore 56 = .ok (.lshr, 1) := by decide +kernel
theorem dX6_productIsNoMore_57 : decode cX6_productIsNoMore 57 = .ok (.ladd, 1) := by decide +kernel
theorem dX6_productIsNoMore_58 : decode cX6_productIsNoMore 58 = .ok (.lstore 17, 2) := by decide +kernel
theorem dX6_productIsNoMore_60 : decode cX6_productIsNoMore 60 = .ok (.lload 13, 2) := by decide +kernel
theorem dX6_productIsNoMore_62 : decode cX6_productIsNoMore 62 = .ok (.lload 17, 2) := by decide +kernel
theorem dX6_productIsNoMore_64 : decode cX6_productIsNoMore 64 = .ok (.lcmp, 1) := by decide +kernel
theorem dX6_productIsNoMore_65 : decode cX6_productIsNoMore 65 = .ok (.ifCond .eq 17, 3) := by decide +kernel
theorem dX6_productIsNoMore_68 : decode cX6_productIsNoMore 68 = .ok (.lload 13, 2) := by decide +kernel
theorem dX6_productIsNoMore_70 : decode cX6_productIsNoMore 70 = .ok (.lload 17, 2) := by decide +kernel
theorem dX6_productIsNoMore_72 : decode cX6_productIsNoMore 72 = .ok (.lcmp, 1) := by decide +kernel
theorem dX6_productIsNoMore_73 : decode cX6_productIsNoMore 73 = .ok (.ifCond .ge 7, 3) := by decide +kernel
theorem dX6_productIsNoMore_76 : decode cX6_productIsNoMore 76 = .ok (.iconst 1, 1) := by decide +kernel
theorem dX6_productIsNoMore_77 : decode cX6_productIsNoMore 77 = .ok (.goto 4, 3) := by decide +kernel
theorem dX6_productIsNoMore_80 : decode cX6_productIsNoMore 80 = .ok (.iconst 0, 1) := by decide +kernel
theorem dX6_productIsNoMore_81 : decode cX6_productIsNoMore 81 = .ok (.ireturn, 1) := by decide +kernel
theorem dX6_productIsNoMore_82 : decode cX6_productIsNoMore 82 = .ok (.lload 11, 2) := by decide +kernel
theorem dX6_productIsNoMore_84 : decode cX6_productIsNoMore 84 = .ok (.lload 9, 2) := by decide +kernel
theorem dX6_productIsNoMore_86 : decode cX6_productIsNoMore 86 = .ok (.land, 1) := by decide +kernel
theorem dX6_productIsNoMore_87 : decode cX6_productIsNoMore 87 = .ok (.lload 15, 2) := by decide +kernel
theorem dX6_productIsNoMore_89 : decode cX6_productIsNoMore 89 = .ok (.lload 9, 2) := by decide +kernel
theorem dX6_productIsNoMore_91 : decode cX6_productIsNoMore 91 = .ok (.land, 1) := by decide +kernel
theorem dX6_productIsNoMore_92 : decode cX6_productIsNoMore 92 = .ok (.lcmp, 1) := by decide +kernel
theorem dX6_productIsNoMore_93 : decode cX6_productIsNoMore 93 = .ok (.ifCond .gt 7, 3) := by decide +kernel
theorem dX6_productIsNoMore_96 : decode cX6_productIsNoMore 96 = .ok (.iconst 1, 1) := by decide +kernel
theorem dX6_productIsNoMore_97 : decode cX6_productIsNoMore 97 = .ok (.goto 4, 3) := by decide +kernel
theorem dX6_productIsNoMore_100 : decode cX6_productIsNoMore 100 = .ok (.iconst 0, 1) := by decide +kernel
theorem dX6_productIsNoMore_101 : decode cX6_productIsNoMore 101 = .ok (.ireturn, 1) := by decide +kernel
theorem dJ9_max_7cf53_0 : decode cJ9_max_7cf53 0 = .ok (.iload_n 0, 1) := by decide +kernel
theorem dJ9_max_7cf53_1 : decode cJ9_max_7cf53 1 = .ok (.iload_n 1, 1) := by decide +kernel
theorem dJ9_max_7cf53_2 : decode cJ9_max_7cf53 2 = .ok (.if_icmp .lt 7, 3) := by decide +kernel
theorem dJ9_max_7cf53_5 : decode cJ9_max_7cf53 5 = .ok (.iload_n 0, 1) := by decide +kernel
theorem dJ9_max_7cf53_6 : decode cJ9_max_7cf53 6 = .ok (.goto 4, 3) := by decide +kernel
theorem dJ9_max_7cf53_9 : decode cJ9_max_7cf53 9 = .ok (.iload_n 1, 1) := by decide +kernel
theorem dJ9_max_7cf53_10 : decode cJ9_max_7cf53 10 = .ok (.ireturn, 1) := by decide +kernel
theorem dJ9_min_7cf53_0 : decode cJ9_min_7cf53 0 = .ok (.iload_n 0, 1) := by decide +kernel
theorem dJ9_min_7cf53_1 : decode cJ9_min_7cf53 1 = .ok (.iload_n 1, 1) := by decide +kernel
theorem dJ9_min_7cf53_2 : decode cJ9_min_7cf53 2 = .ok (.if_icmp .gt 7, 3) := by decide +kernel
theorem dJ9_min_7cf53_5 : decode cJ9_min_7cf53 5 = .ok (.iload_n 0, 1) := by decide +kernel
theorem dJ9_min_7cf53_6 : decode cJ9_min_7cf53 6 = .ok (.goto 4, 3) := by decide +kernel
theorem dJ9_min_7cf53_9 : decode cJ9_min_7cf53 9 = .ok (.iload_n 1, 1) := by decide +kernel
theorem dJ9_min_7cf53_10 : decode cJ9_min_7cf53 10 = .ok (.ireturn, 1) := by decide +kernel
theorem dJ0_length_8abf5_0 : decode cJ0_length_8abf5 0 = .ok (.aload_n 0, 1) := by decide +kernel
theorem dJ0_length_8abf5_1 : decode cJ0_length_8abf5 1 = .ok (.getfield 9, 3) := by decide +kernel
theorem dJ0_length_8abf5_4 : decode cJ0_length_8abf5 4 = .ok (.arraylength, 1) := by decide +kernel
theorem dJ0_length_8abf5_5 : decode cJ0_length_8abf5 5 = .ok (.aload_n 0, 1) := by decide +kernel
theorem dJ0_length_8abf5_6 : decode cJ0_length_8abf5 6 = .ok (.invokevirtual 335, 3) := by decide +kernel
theorem dJ0_length_8abf5_9 : decode cJ0_length_8abf5 9 = .ok (.ishr, 1) := by decide +kernel
theorem dJ0_length_8abf5_10 : decode cJ0_length_8abf5 10 = .ok (.ireturn, 1) := by decide +kernel
theorem dJ0_charAt_5068e_0 : decode cJ0_charAt_5068e 0 = .ok (.aload_n 0, 1) := by decide +kernel
theorem dJ0_charAt_5068e_1 : decode cJ0_charAt_5068e 1 = .ok (.invokevirtual 492, 3) := by decide +kernel
theorem dJ0_charAt_5068e_4 : decode cJ0_charAt_5068e 4 = .ok (.ifCond .eq 12, 3) := by decide +kernel
theorem dJ0_charAt_5068e_7 : decode cJ0_charAt_5068e 7 = .ok (.aload_n 0, 1) := by decide +kernel
theorem dJ0_charAt_5068e_8 : decode cJ0_charAt_5068e 8 = .ok (.getfield 9, 3) := by decide +kernel
theorem dJ0_charAt_5068e_11 : decode cJ0_charAt_5068e 11 = .ok (.iload_n 1, 1) := by decide +kernel
theorem dJ0_charAt_5068e_12 : decode cJ0_charAt_5068e 12 = .ok (.invokestatic 495, 3) := by decide +kernel
theorem dJ0_charAt_5068e_15 : decode cJ0_charAt_5068e 15 = .ok (.ireturn, 1) := by decide +kernel
theorem dJ0_charAt_5068e_16 : decode cJ0_charAt_5068e 16 = .ok (.aload_n 0, 1) := by decide +kernel
theorem dJ0_charAt_5068e_17 : decode cJ0_charAt_5068e 17 = .ok (.getfield 9, 3) := by decide +kernel
theorem dJ0_charAt_5068e_20 : decode cJ0_charAt_5068e 20 = .ok (.iload_n 1, 1) := by decide +kernel
theorem dJ0_charAt_5068e_21 : decode cJ0_charAt_5068e 21 = .ok (.invokestatic 498, 3) := by decide +kernel
theorem dJ0_charAt_5068e_24 : decode cJ0_charAt_5068e 24 = .ok (.ireturn, 1) := by decide +kernel
theorem dJ0_coder_7d493_0 : decode cJ0_coder_7d493 0 = .ok (.getstatic 38, 3) := by decide +kernel
theorem dJ0_coder_7d493_3 : decode cJ0_coder_7d493 3 = .ok (.ifCond .eq 10, 3) := by decide +kernel
theorem dJ0_coder_7d493_6 : decode cJ0_coder_7d493 6 = .ok (.aload_n 0, 1) := by decide +kernel
theorem dJ0_coder_7d493_7 : decode cJ0_coder_7d493 7 = .ok (.getfield 15, 3) := by decide +kernel
theorem dJ0_coder_7d493_10 : decode cJ0_coder_7d493 10 = .ok (.goto 4, 3) := by decide +kernel
theorem dJ0_coder_7d493_13 : decode cJ0_coder_7d493 13 = .ok (.iconst 1, 1) := by decide +kernel
theorem dJ0_coder_7d493_14 : decode cJ0_coder_7d493 14 = .ok (.ireturn, 1) := by decide +kernel
theorem dJ0_isLatin1_aae02_0 : decode cJ0_isLatin1_aae02 0 = .ok (.getstatic 38, 3) := by decide +kernel
theorem dJ0_isLatin1_aae02_3 : decode cJ0_isLatin1_aae02 3 = .ok (.ifCond .eq 14, 3) := by decide +kernel
theorem dJ0_isLatin1_aae02_6 : decode cJ0_isLatin1_aae02 6 = .ok (.aload_n 0, 1) := by decide +kernel
theorem dJ0_isLatin1_aae02_7 : decode cJ0_isLatin1_aae02 7 = .ok (.getfield 15, 3) := by decide +kernel
theorem dJ0_isLatin1_aae02_10 : decode cJ0_isLatin1_aae02 10 = .ok (.ifCond .ne 7, 3) := by decide +kernel
theorem dJ0_isLatin1_aae02_13 : decode cJ0_isLatin1_aae02 13 = .ok (.iconst 1, 1) := by decide +kernel
theorem dJ0_isLatin1_aae02_14 : decode cJ0_isLatin1_aae02 14 = .ok (.goto 4, 3) := by decide +kernel
theorem dJ0_isLatin1_aae02_17 : decode cJ0_isLatin1_aae02 17 = .ok (.iconst 0, 1) := by decide +kernel
theorem dJ0_isLatin1_aae02_18 : decode cJ0_isLatin1_aae02 18 = .ok (.ireturn, 1) := by decide +kernel
theorem dJ0_checkIndex_df160_0 : decode cJ0_checkIndex_df160 0 = .ok (.iload_n 0, 1) := by decide +kernel
theorem dJ0_checkIndex_df160_1 : decode cJ0_checkIndex_df160 1 = .ok (.iload_n 1, 1) := by decide +kernel
theorem dJ0_checkIndex_df160_2 : decode cJ0_checkIndex_df160 2 = .ok (.getstatic 1053, 3) := by decide +kernel
theorem dJ0_checkIndex_df160_5 : decode cJ0_checkIndex_df160 5 = .ok (.invokestatic 1059, 3) := by decide +kernel
theorem dJ0_checkIndex_df160_8 : decode cJ0_checkIndex_df160 8 = .ok (.pop, 1) := by decide +kernel
theorem dJ0_checkIndex_df160_9 : decode cJ0_checkIndex_df160 9 = .ok (.return_, 1) := by decide +kernel
theorem dJ1_charAt_3b067_0 : decode cJ1_charAt_3b067 0 = .ok (.iload_n 1, 1) := by decide +kernel
theorem dJ1_charAt_3b067_1 : decode cJ1_charAt_3b067 1 = .ok (.aload_n 0, 1) := by decide +kernel
theorem dJ1_charAt_3b067_2 : decode cJ1_charAt_3b067 2 = .ok (.arraylength, 1) := by decide +kernel
theorem dJ1_charAt_3b067_3 : decode cJ1_charAt_3b067 3 = .ok (.invokestatic 9, 3) := by decide +kernel
theorem dJ1_charAt_3b067_6 : decode cJ1_charAt_3b067 6 = .ok (.aload_n 0, 1) := by decide +kernel
theorem dJ1_charAt_3b067_7 : decode cJ1_charAt_3b067 7 = .ok (.iload_n 1, 1) := by decide +kernel
theorem dJ1_charAt_3b067_8 : decode cJ1_charAt_3b067 8 = .ok (.baload, 1) := by decide +kernel
theorem dJ1_charAt_3b067_9 : decode cJ1_charAt_3b067 9 = .ok (.sipush 255, 3) := by decide +kernel
theorem dJ1_charAt_3b067_12 : decode cJ1_charAt_3b067 12 = .ok (.iand, 1) := by decide +kernel
theorem dJ1_charAt_3b067_13 : decode cJ1_charAt_3b067 13 = .ok (.i2c, 1) := by decide +kernel
theorem dJ1_charAt_3b067_14 : decode cJ1_charAt_3b067 14 = .ok (.ireturn, 1) := by decide +kernel
theorem dJ2_getChar_3b067_0 : decode cJ2_getChar_3b067 0 = .ok (.getstatic 44, 3) := by decide +kernel
theorem dJ2_getChar_3b067_3 : decode cJ2_getChar_3b067 3 = .ok (.ifCond .ne 25, 3) := by decide +kernel
theorem dJ2_getChar_3b067_6 : decode cJ2_getChar_3b067 6 = .ok (.iload_n 1, 1) := by decide +kernel
theorem dJ2_getChar_3b067_7 : decode cJ2_getChar_3b067 7 = .ok (.ifCond .lt 11, 3) := by decide +kernel
theorem dJ2_getChar_3b067_10 : decode cJ2_getChar_3b067 10 = .ok (.iload_n 1, 1) := by decide +kernel
theorem dJ2_getChar_3b067_11 : decode cJ2_getChar_3b067 11 = .ok (.aload_n 0, 1) := by decide +kernel
theorem dJ2_getChar_3b067_12 : decode cJ2_getChar_3b067 12 = .ok (.invokestatic 48, 3) := by decide +kernel
theorem dJ2_getChar_3b067_15 : decode cJ2_getChar_3b067 15 = .ok (.if_icmp .lt 13, 3) := by decide +kernel
theorem dJ2_getChar_3b067_18 : decode cJ2_getChar_3b067 18 = .ok (.new 52, 3) := by decide +kernel
theorem dJ2_getChar_3b067_21 : decode cJ2_getChar_3b067 21 = .ok (.dup, 1) := by decide +kernel
theorem dJ2_getChar_3b067_22 : decode cJ2_getChar_3b067 22 = .ok (.ldc 54, 2) := by decide +kernel
theorem dJ2_getChar_3b067_24 : decode cJ2_getChar_3b067 24 = .ok (.invokespecial 56, 3) := by decide +kernel
theorem dJ2_getChar_3b067_27 : decode cJ2_getChar_3b067 27 = .ok (.athrow, 1) := by decide +kernel
theorem dJ2_getChar_3b067_28 : decode cJ2_getChar_3b067 28 = .ok (.iload_n 1, 1) := by decide +kernel
theorem dJ2_getChar_3b067_29 : decode cJ2_getChar_3b067 29 = .ok (.iconst 1, 1) := by decide +kernel
theorem dJ2_getChar_3b067_30 : decode cJ2_getChar_3b067 30 = .ok (.ishl, 1) := by decide +kernel
theorem dJ2_getChar_3b067_31 : decode cJ2_getChar_3b067 31 = .ok (.istore_n 1, 1) := by decide +kernel
theorem dJ2_getChar_3b067_32 : decode cJ2_getChar_3b067 32 = .ok (.aload_n 0, 1) := by decide +kernel
theorem dJ2_getChar_3b067_33 : decode cJ2_getChar_3b067 33 = .ok (.iload_n 1, 1) := by decide +kernel
theorem dJ2_getChar_3b067_34 : decode cJ2_getChar_3b067 34 = .ok (.iinc 1 1, 3) := by decide +kernel
theorem dJ2_getChar_3b067_37 : decode cJ2_getChar_3b067 37 = .ok (.baload, 1) := by decide +kernel
theorem dJ2_getChar_3b067_38 : decode cJ2_getChar_3b067 38 = .ok (.sipush 255, 3) := by decide +kernel
theorem dJ2_getChar_3b067_41 : decode cJ2_getChar_3b067 41 = .ok (.iand, 1) := by decide +kernel
theorem dJ2_getChar_3b067_42 : decode cJ2_getChar_3b067 42 = .ok (.getstatic 59, 3) := by decide +kernel
theorem dJ2_getChar_3b067_45 : decode cJ2_getChar_3b067 45 = .ok (.ishl, 1) := by decide +kernel
theorem dJ2_getChar_3b067_46 : decode cJ2_getChar_3b067 46 = .ok (.aload_n 0, 1) := by decide +kernel
theorem dJ2_getChar_3b067_47 : decode cJ2_getChar_3b067 47 = .ok (.iload_n 1, 1) := by decide +kernel
theorem dJ2_getChar_3b067_48 : decode cJ2_getChar_3b067 48 = .ok (.baload, 1) := by decide +kernel
theorem dJ2_getChar_3b067_49 : decode cJ2_getChar_3b067 49 = .ok (.sipush 255, 3) := by decide +kernel
theorem dJ2_getChar_3b067_52 : decode cJ2_getChar_3b067 52 = .ok (.iand, 1) := by decide +kernel
theorem dJ2_getChar_3b067_53 : decode cJ2_getChar_3b067 53 = .ok (.getstatic 63, 3) := by decide +kernel
theorem dJ2_getChar_3b067_56 : decode cJ2_getChar_3b067 56 = .ok (.ishl, 1) := by decide +kernel
theorem dJ2_getChar_3b067_57 : decode cJ2_getChar_3b067 57 = .ok (.ior, 1) := by decide +kernel
theorem dJ2_getChar_3b067_58 : decode cJ2_getChar_3b067 58 = .ok (.i2c, 1) := by decide +kernel
theorem dJ2_getChar_3b067_59 : decode cJ2_getChar_3b067 59 = .ok (.ireturn, 1) := by decide +kernel
theorem dJ2_length_9d52b_0 : decode cJ2_length_9d52b 0 = .ok (.aload_n 0, 1) := by decide +kernel
theorem dJ2_length_9d52b_1 : decode cJ2_length_9d52b 1 = .ok (.arraylength, 1) := by decide +kernel
theorem dJ2_length_9d52b_2 : decode cJ2_length_9d52b 2 = .ok (.iconst 1, 1) := by decide +kernel
theorem dJ2_length_9d52b_3 : decode cJ2_length_9d52b 3 = .ok (.ishr, 1) := by decide +kernel
theorem dJ2_length_9d52b_4 : decode cJ2_length_9d52b 4 = .ok (.ireturn, 1) := by decide +kernel
theorem dJ2_charAt_3b067_0 : decode cJ2_charAt_3b067 0 = .ok (.iload_n 1, 1) := by decide +kernel
theorem dJ2_charAt_3b067_1 : decode cJ2_charAt_3b067 1 = .ok (.aload_n 0, 1) := by decide +kernel
theorem dJ2_charAt_3b067_2 : decode cJ2_charAt_3b067 2 = .ok (.invokestatic 67, 3) := by decide +kernel
theorem dJ2_charAt_3b067_5 : decode cJ2_charAt_3b067 5 = .ok (.aload_n 0, 1) := by decide +kernel
theorem dJ2_charAt_3b067_6 : decode cJ2_charAt_3b067 6 = .ok (.iload_n 1, 1) := by decide +kernel
theorem dJ2_charAt_3b067_7 : decode cJ2_charAt_3b067 7 = .ok (.invokestatic 71, 3) := by decide +kernel
theorem dJ2_charAt_3b067_10 : decode cJ2_charAt_3b067 10 = .ok (.ireturn, 1) := by decide +kernel
theorem dJ2_checkIndex_2214a_0 : decode cJ2_checkIndex_2214a 0 = .ok (.iload_n 0, 1) := by decide +kernel
theorem dJ2_checkIndex_2214a_1 : decode cJ2_checkIndex_2214a 1 = .ok (.aload_n 1, 1) := by decide +kernel
theorem dJ2_checkIndex_2214a_2 : decode cJ2_checkIndex_2214a 2 = .ok (.invokestatic 48, 3) := by decide +kernel
theorem dJ2_checkIndex_2214a_5 : decode cJ2_checkIndex_2214a 5 = .ok (.invokestatic 414, 3) := by decide +kernel
theorem dJ2_checkIndex_2214a_8 : decode cJ2_checkIndex_2214a 8 = .ok (.return_, 1) := by decide +kernel
theorem dJ7_fill_d0a16_0 : decode cJ7_fill_d0a16 0 = .ok (.iconst 0, 1) := by decide +kernel
theorem dJ7_fill_d0a16_1 : decode cJ7_fill_d0a16 1 = .ok (.istore_n 3, 1) := by decide +kernel
theorem dJ7_fill_d0a16_2 : decode cJ7_fill_d0a16 2 = .ok (.aload_n 0, 1) := by decide +kernel
theorem dJ7_fill_d0a16_3 : decode cJ7_fill_d0a16 3 = .ok (.arraylength, 1) := by decide +kernel
theorem dJ7_fill_d0a16_4 : decode cJ7_fill_d0a16 4 = .ok (.istore 4, 2) := by decide +kernel
theorem dJ7_fill_d0a16_6 : decode cJ7_fill_d0a16 6 = .ok (.iload_n 3, 1) := by decide +kernel
theorem dJ7_fill_d0a16_7 : decode cJ7_fill_d0a16 7 = .ok (.iload 4, 2) := by decide +kernel
theorem dJ7_fill_d0a16_9 : decode cJ7_fill_d0a16 9 = .ok (.if_icmp .ge 13, 3) := by decide +kernel
theorem dJ7_fill_d0a16_12 : decode cJ7_fill_d0a16 12 = .ok (.aload_n 0, 1) := by decide +kernel
theorem dJ7_fill_d0a16_13 : decode cJ7_fill_d0a16 13 = .ok (.iload_n 3, 1) := by decide +kernel
theorem dJ7_fill_d0a16_14 : decode cJ7_fill_d0a16 14 = .ok (.lload_n 1, 1) := by decide +kernel
theorem dJ7_fill_d0a16_15 : decode cJ7_fill_d0a16 15 = .ok (.lastore, 1) := by decide +kernel
theorem dJ7_fill_d0a16_16 : decode cJ7_fill_d0a16 16 = .ok (.iinc 3 1, 3) := by decide +kernel
theorem dJ7_fill_d0a16_19 : decode cJ7_fill_d0a16 19 = .ok (.goto (-13), 3) := by decide +kernel
theorem dJ7_fill_d0a16_22 : decode cJ7_fill_d0a16 22 = .ok (.return_, 1) := by decide +kernel
theorem dJ7_fill_53178_0 : decode cJ7_fill_53178 0 = .ok (.iconst 0, 1) := by decide +kernel
theorem dJ7_fill_53178_1 : decode cJ7_fill_53178 1 = .ok (.istore_n 2, 1) := by decide +kernel
theorem dJ7_fill_53178_2 : decode cJ7_fill_53178 2 = .ok (.aload_n 0, 1) := by decide +kernel
theorem dJ7_fill_53178_3 : decode cJ7_fill_53178 3 = .ok (.arraylength, 1) := by decide +kernel
theorem dJ7_fill_53178_4 : decode cJ7_fill_53178 4 = .ok (.istore_n 3, 1) := by decide +kernel
theorem dJ7_fill_53178_5 : decode cJ7_fill_53178 5 = .ok (.iload_n 2, 1) := by decide +kernel
theorem dJ7_fill_53178_6 : decode cJ7_fill_53178 6 = .ok (.iload_n 3, 1) := by decide +kernel
theorem dJ7_fill_53178_7 : decode cJ7_fill_53178 7 = .ok (.if_icmp .ge 13, 3) := by decide +kernel
theorem dJ7_fill_53178_10 : decode cJ7_fill_53178 10 = .ok (.aload_n 0, 1) := by decide +kernel
theorem dJ7_fill_53178_11 : decode cJ7_fill_53178 11 = .ok (.iload_n 2, 1) := by decide +kernel
theorem dJ7_fill_53178_12 : decode cJ7_fill_53178 12 = .ok (.iload_n 1, 1) := by decide +kernel
theorem dJ7_fill_53178_13 : decode cJ7_fill_53178 13 = .ok (.iastore, 1) := by decide +kernel
theorem dJ7_fill_53178_14 : decode cJ7_fill_53178 14 = .ok (.iinc 2 1, 3) := by decide +kernel
theorem dJ7_fill_53178_17 : decode cJ7_fill_53178 17 = .ok (.goto (-12), 3) := by decide +kernel
theorem dJ7_fill_53178_20 : decode cJ7_fill_53178 20 = .ok (.return_, 1) := by decide +kernel
theorem dJ3_checkIndex_8e157_0 : decode cJ3_checkIndex_8e157 0 = .ok (.iload_n 0, 1) := by decide +kernel
theorem dJ3_checkIndex_8e157_1 : decode cJ3_checkIndex_8e157 1 = .ok (.ifCond .lt 8, 3) := by decide +kernel
theorem dJ3_checkIndex_8e157_4 : decode cJ3_checkIndex_8e157 4 = .ok (.iload_n 0, 1) := by decide +kernel
theorem dJ3_checkIndex_8e157_5 : decode cJ3_checkIndex_8e157 5 = .ok (.iload_n 1, 1) := by decide +kernel
theorem dJ3_checkIndex_8e157_6 : decode cJ3_checkIndex_8e157 6 = .ok (.if_icmp .lt 10, 3) := by decide +kernel
theorem dJ3_checkIndex_8e157_9 : decode cJ3_checkIndex_8e157 9 = .ok (.aload_n 2, 1) := by decide +kernel
theorem dJ3_checkIndex_8e157_10 : decode cJ3_checkIndex_8e157 10 = .ok (.iload_n 0, 1) := by decide +kernel
theorem dJ3_checkIndex_8e157_11 : decode cJ3_checkIndex_8e157 11 = .ok (.iload_n 1, 1) := by decide +kernel
theorem dJ3_checkIndex_8e157_12 : decode cJ3_checkIndex_8e157 12 = .ok (.invokestatic 95, 3) := by decide +kernel
theorem dJ3_checkIndex_8e157_15 : decode cJ3_checkIndex_8e157 15 = .ok (.athrow, 1) := by decide +kernel
theorem dJ3_checkIndex_8e157_16 : decode cJ3_checkIndex_8e157 16 = .ok (.iload_n 0, 1) := by decide +kernel
theorem dJ3_checkIndex_8e157_17 : decode cJ3_checkIndex_8e157 17 = .ok (.ireturn, 1) := by decide +kernel
theorem dL_law_0 : decode cL_law 0 = .ok (.new 7, 3) := by decide +kernel
theorem dL_law_3 : decode cL_law 3 = .ok (.dup, 1) := by decide +kernel
theorem dL_law_4 : decode cL_law 4 = .ok (.invokespecial 9, 3) := by decide +kernel
theorem dL_law_7 : decode cL_law 7 = .ok (.astore_n 1, 1) := by decide +kernel
theorem dL_law_8 : decode cL_law 8 = .ok (.new 10, 3) := by decide +kernel
theorem dL_law_11 : decode cL_law 11 = .ok (.dup, 1) := by decide +kernel
theorem dL_law_12 : decode cL_law 12 = .ok (.invokespecial 12, 3) := by decide +kernel
theorem dL_law_15 : decode cL_law 15 = .ok (.astore_n 2, 1) := by decide +kernel
theorem dL_law_16 : decode cL_law 16 = .ok (.iconst 0, 1) := by decide +kernel
theorem dL_law_17 : decode cL_law 17 = .ok (.istore_n 3, 1) := by decide +kernel
theorem dL_law_18 : decode cL_law 18 = .ok (.iload_n 3, 1) := by decide +kernel
theorem dL_law_19 : decode cL_law 19 = .ok (.aload_n 0, 1) := by decide +kernel
theorem dL_law_20 : decode cL_law 20 = .ok (.arraylength, 1) := by decide +kernel
theorem dL_law_21 : decode cL_law 21 = .ok (.iconst 4, 1) := by decide +kernel
theorem dL_law_22 : decode cL_law 22 = .ok (.isub, 1) := by decide +kernel
theorem dL_law_23 : decode cL_law 23 = .ok (.if_icmp .gt 622, 3) := by decide +kernel
theorem dL_law_26 : decode cL_law 26 = .ok (.aload_n 0, 1) := by decide +kernel
theorem dL_law_27 : decode cL_law 27 = .ok (.iload_n 3, 1) := by decide +kernel
theorem dL_law_28 : decode cL_law 28 = .ok (.iaload, 1) := by decide +kernel
theorem dL_law_29 : decode cL_law 29 = .ok (.bipush 31, 2) := by decide +kernel
theorem dL_law_31 : decode cL_law 31 = .ok (.iand, 1) := by decide +kernel
theorem dL_law_32 : decode cL_law 32 = .ok (.tableswitch 607 0 19 #[96, 119, 132, 145, 158, 191, 224, 257, 280, 303, 316, 349, 392, 425, 458, 481, 504, 528, 561, 584], 96) := by decide +kernel
theorem dL_law_128 : decode cL_law 128 = .ok (.aload_n 1, 1) := by decide +kernel
theorem dL_law_129 : decode cL_law 129 = .ok (.aload_n 0, 1) := by decide +kernel
theorem dL_law_130 : decode cL_law 130 = .ok (.iload_n 3, 1) := by decide +kernel
theorem dL_law_131 : decode cL_law 131 = .ok (.iconst 1, 1) := by decide +kernel
theorem dL_law_132 : decode cL_law 132 = .ok (.iadd, 1) := by decide +kernel
theorem dL_law_133 : decode cL_law 133 = .ok (.iaload, 1) := by decide +kernel
theorem dL_law_134 : decode cL_law 134 = .ok (.invokevirtual 13, 3) := by decide +kernel
theorem dL_law_137 : decode cL_law 137 = .ok (.aload_n 2, 1) := by decide +kernel
theorem dL_law_138 : decode cL_law 138 = .ok (.aload_n 0, 1) := by decide +kernel
theorem dL_law_139 : decode cL_law 139 = .ok (.iload_n 3, 1) := by decide +kernel
theorem dL_law_140 : decode cL_law 140 = .ok (.iconst 1, 1) := by decide +kernel
theorem dL_law_141 : decode cL_law 141 = .ok (.iadd, 1) := by decide +kernel
theorem dL_law_142 : decode cL_law 142 = .ok (.iaload, 1) := by decide +kernel
theorem dL_law_143 : decode cL_law 143 = .ok (.invokevirtual 17, 3) := by decide +kernel
theorem dL_law_146 : decode cL_law 146 = .ok (.if_icmp .eq 493, 3) := by decide +kernel
theorem dL_law_149 : decode cL_law 149 = .ok (.iconst 0, 1) := by decide +kernel
theorem dL_law_150 : decode cL_law 150 = .ok (.ireturn, 1) := by decide +kernel
theorem dL_law_151 : decode cL_law 151 = .ok (.aload_n 1, 1) := by decide +kernel
theorem dL_law_152 : decode cL_law 152 = .ok (.invokevirtual 18, 3) := by decide +kernel
theorem dL_law_155 : decode cL_law 155 = .ok (.aload_n 2, 1) := by decide +kernel
theorem dL_law_156 : decode cL_law 156 = .ok (.invokevirtual 22, 3) := by decide +kernel
theorem dL_law_159 : decode cL_law 159 = .ok (.if_icmp .eq 480, 3) := by decide +kernel
theorem dL_law_162 : decode cL_law 162 = .ok (.iconst 0, 1) := by decide +kernel
theorem dL_law_163 : decode cL_law 163 = .ok (.ireturn, 1) := by decide +kernel
theorem dL_law_164 : decode cL_law 164 = .ok (.aload_n 1, 1) := by decide +kernel
theorem dL_law_165 : decode cL_law 165 = .ok (.invokevirtual 23, 3) := by decide +kernel
theorem dL_law_168 : decode cL_law 168 = .ok (.aload_n 2, 1) := by decide +kernel
theorem dL_law_169 : decode cL_law 169 = .ok (.invokevirtual 26, 3) := by decide +kernel
theorem dL_law_172 : decode cL_law 172 = .ok (.if_icmp .eq 467, 3) := by decide +kernel
theorem dL_law_175 : decode cL_law 175 = .ok (.iconst 0, 1) := by decide +kernel
theorem dL_law_176 : decode cL_law 176 = .ok (.ireturn, 1) := by decide +kernel
theorem dL_law_177 : decode cL_law 177 = .ok (.aload_n 1, 1) := by decide +kernel
theorem dL_law_178 : decode cL_law 178 = .ok (.invokevirtual 27, 3) := by decide +kernel
theorem dL_law_181 : decode cL_law 181 = .ok (.aload_n 2, 1) := by decide +kernel
theorem dL_law_182 : decode cL_law 182 = .ok (.invokevirtual 30, 3) := by decide +kernel
theorem dL_law_185 : decode cL_law 185 = .ok (.if_icmp .eq 454, 3) := by decide +kernel
theorem dL_law_188 : decode cL_law 188 = .ok (.iconst 0, 1) := by decide +kernel
theorem dL_law_189 : decode cL_law 189 = .ok (.ireturn, 1) := by decide +kernel
theorem dL_law_190 : decode cL_law 190 = .ok (.aload_n 1, 1) := by decide +kernel
theorem dL_law_191 : decode cL_law 191 = .ok (.aload_n 0, 1) := by decide +kernel
theorem dL_law_192 : decode cL_law 192 = .ok (.iload_n 3, 1) := by decide +kernel
theorem dL_law_193 : decode cL_law 193 = .ok (.iconst 1, 1) := by decide +kernel
theorem dL_law_194 : decode cL_law 194 = .ok (.iadd, 1) := by decide +kernel
theorem dL_law_195 : decode cL_law 195 = .ok (.iaload, 1) := by decide +kernel
theorem dL_law_196 : decode cL_law 196 = .ok (.aload_n 0, 1) := by decide +kernel
theorem dL_law_197 : decode cL_law 197 = .ok (.iload_n 3, 1) := by decide +kernel
theorem dL_law_198 : decode cL_law 198 = .ok (.iconst 2, 1) := by decide +kernel
theorem dL_law_199 : decode cL_law 199 = .ok (.iadd, 1) := by decide +kernel
theorem dL_law_200 : decode cL_law 200 = .ok (.iaload, 1) := by decide +kernel
theorem dL_law_201 : decode cL_law 201 = .ok (.invokevirtual 31, 3) := by decide +kernel
theorem dL_law_204 : decode cL_law 204 = .ok (.aload_n 2, 1) := by decide +kernel
theorem dL_law_205 : decode cL_law 205 = .ok (.aload_n 0, 1) := by decide +kernel
theorem dL_law_206 : decode cL_law 206 = .ok (.iload_n 3, 1) := by decide +kernel
theorem dL_law_207 : decode cL_law 207 = .ok (.iconst 1, 1) := by decide +kernel
theorem dL_law_208 : decode cL_law 208 = .ok (.iadd, 1) := by decide +kernel
theorem dL_law_209 : decode cL_law 209 = .ok (.iaload, 1) := by decide +kernel
theorem dL_law_210 : decode cL_law 210 = .ok (.aload_n 0, 1) := by decide +kernel
theorem dL_law_211 : decode cL_law 211 = .ok (.iload_n 3, 1) := by decide +kernel
theorem dL_law_212 : decode cL_law 212 = .ok (.iconst 2, 1) := by decide +kernel
theorem dL_law_213 : decode cL_law 213 = .ok (.iadd, 1) := by decide +kernel
theorem dL_law_214 : decode cL_law 214 = .ok (.iaload, 1) := by decide +kernel
theorem dL_law_215 : decode cL_law 215 = .ok (.invokevirtual 35, 3) := by decide +kernel
theorem dL_law_218 : decode cL_law 218 = .ok (.if_icmp .eq 421, 3) := by decide +kernel
theorem dL_law_221 : decode cL_law 221 = .ok (.iconst 0, 1) := by decide +kernel
theorem dL_law_222 : decode cL_law 222 = .ok (.ireturn, 1) := by decide +kernel
theorem dL_law_223 : decode cL_law 223 = .ok (.aload_n 1, 1) := by decide +kernel
theorem dL_law_224 : decode cL_law 224 = .ok (.aload_n 0, 1) := by decide +kernel
theorem dL_law_225 : decode cL_law 225 = .ok (.iload_n 3, 1) := by decide +kernel
theorem dL_law_226 : decode cL_law 226 = .ok (.iconst 1, 1) := by decide +kernel
theorem dL_law_227 : decode cL_law 227 = .ok (.iadd, 1) := by decide +kernel
theorem dL_law_228 : decode cL_law 228 = .ok (.iaload, 1) := by decide +kernel
theorem dL_law_229 : decode cL_law 229 = .ok (.aload_n 0, 1) := by decide +kernel
theorem dL_law_230 : decode cL_law 230 = .ok (.iload_n 3, 1) := by decide +kernel
theorem dL_law_231 : decode cL_law 231 = .ok (.iconst 2, 1) := by decide +kernel
theorem dL_law_232 : decode cL_law 232 = .ok (.iadd, 1) := by decide +kernel
theorem dL_law_233 : decode cL_law 233 = .ok (.iaload, 1) := by decide +kernel
theorem dL_law_234 : decode cL_law 234 = .ok (.invokevirtual 36, 3) := by decide +kernel
theorem dL_law_237 : decode cL_law 237 = .ok (.aload_n 2, 1) := by decide +kernel
theorem dL_law_238 : decode cL_law 238 = .ok (.aload_n 0, 1) := by decide +kernel
theorem dL_law_239 : decode cL_law 239 = .ok (.iload_n 3, 1) := by decide +kernel
theorem dL_law_240 : decode cL_law 240 = .ok (.iconst 1, 1) := by decide +kernel
theorem dL_law_241 : decode cL_law 241 = .ok (.iadd, 1) := by decide +kernel
theorem dL_law_242 : decode cL_law 242 = .ok (.iaload, 1) := by decide +kernel
theorem dL_law_243 : decode cL_law 243 = .ok (.aload_n 0, 1) := by decide +kernel
theorem dL_law_244 : decode cL_law 244 = .ok (.iload_n 3, 1) := by decide +kernel
theorem dL_law_245 : decode cL_law 245 = .ok (.iconst 2, 1) := by decide +kernel
theorem dL_law_246 : decode cL_law 246 = .ok (.iadd, 1) := by decide +kernel
theorem dL_law_247 : decode cL_law 247 = .ok (.iaload, 1) := by decide +kernel
theorem dL_law_248 : decode cL_law 248 = .ok (.invokevirtual 39, 3) := by decide +kernel
theorem dL_law_251 : decode cL_law 251 = .ok (.if_icmp .eq 388, 3) := by decide +kernel
theorem dL_law_254 : decode cL_law 254 = .ok (.iconst 0, 1) := by decide +kernel
theorem dL_law_255 : decode cL_law 255 = .ok (.ireturn, 1) := by decide +kernel
theorem dL_law_256 : decode cL_law 256 = .ok (.aload_n 1, 1) := by decide +kernel
theorem dL_law_257 : decode cL_law 257 = .ok (.aload_n 0, 1) := by decide +kernel
theorem dL_law_258 : decode cL_law 258 = .ok (.iload_n 3, 1) := by decide +kernel
theorem dL_law_259 : decode cL_law 259 = .ok (.iconst 1, 1) := by decide +kernel
theorem dL_law_260 : decode cL_law 260 = .ok (.iadd, 1) := by decide +kernel
theorem dL_law_261 : decode cL_law 261 = .ok (.iaload, 1) := by decide +kernel
theorem dL_law_262 : decode cL_law 262 = .ok (.aload_n 0, 1) := by decide +kernel
theorem dL_law_263 : decode cL_law 263 = .ok (.iload_n 3, 1) := by decide +kernel
theorem dL_law_264 : decode cL_law 264 = .ok (.iconst 2, 1) := by decide +kernel
theorem dL_law_265 : decode cL_law 265 = .ok (.iadd, 1) := by decide +kernel
theorem dL_law_266 : decode cL_law 266 = .ok (.iaload, 1) := by decide +kernel
theorem dL_law_267 : decode cL_law 267 = .ok (.invokevirtual 40, 3) := by decide +kernel
theorem dL_law_270 : decode cL_law 270 = .ok (.aload_n 2, 1) := by decide +kernel
theorem dL_law_271 : decode cL_law 271 = .ok (.aload_n 0, 1) := by decide +kernel
theorem dL_law_272 : decode cL_law 272 = .ok (.iload_n 3, 1) := by decide +kernel
theorem dL_law_273 : decode cL_law 273 = .ok (.iconst 1, 1) := by decide +kernel
theorem dL_law_274 : decode cL_law 274 = .ok (.iadd, 1) := by decide +kernel
theorem dL_law_275 : decode cL_law 275 = .ok (.iaload, 1) := by decide +kernel
theorem dL_law_276 : decode cL_law 276 = .ok (.aload_n 0, 1) := by decide +kernel
theorem dL_law_277 : decode cL_law 277 = .ok (.iload_n 3, 1) := by decide +kernel
theorem dL_law_278 : decode cL_law 278 = .ok (.iconst 2, 1) := by decide +kernel
theorem dL_law_279 : decode cL_law 279 = .ok (.iadd, 1) := by decide +kernel
theorem dL_law_280 : decode cL_law 280 = .ok (.iaload, 1) := by decide +kernel
theorem dL_law_281 : decode cL_law 281 = .ok (.invokevirtual 43, 3) := by decide +kernel
theorem dL_law_284 : decode cL_law 284 = .ok (.if_icmp .eq 355, 3) := by decide +kernel
theorem dL_law_287 : decode cL_law 287 = .ok (.iconst 0, 1) := by decide +kernel
theorem dL_law_288 : decode cL_law 288 = .ok (.ireturn, 1) := by decide +kernel
theorem dL_law_289 : decode cL_law 289 = .ok (.aload_n 1, 1) := by decide +kernel
theorem dL_law_290 : decode cL_law 290 = .ok (.aload_n 0, 1) := by decide +kernel
theorem dL_law_291 : decode cL_law 291 = .ok (.iload_n 3, 1) := by decide +kernel
theorem dL_law_292 : decode cL_law 292 = .ok (.iconst 1, 1) := by decide +kernel
theorem dL_law_293 : decode cL_law 293 = .ok (.iadd, 1) := by decide +kernel
theorem dL_law_294 : decode cL_law 294 = .ok (.iaload, 1) := by decide +kernel
theorem dL_law_295 : decode cL_law 295 = .ok (.invokevirtual 44, 3) := by decide +kernel
theorem dL_law_298 : decode cL_law 298 = .ok (.aload_n 2, 1) := by decide +kernel
theorem dL_law_299 : decode cL_law 299 = .ok (.aload_n 0, 1) := by decide +kernel
theorem dL_law_300 : decode cL_law 300 = .ok (.iload_n 3, 1) := by decide +kernel
theorem dL_law_301 : decode cL_law 301 = .ok (.iconst 1, 1) := by decide +kernel
theorem dL_law_302 : decode cL_law 302 = .ok (.iadd, 1) := by decide +kernel
theorem dL_law_303 : decode cL_law 303 = .ok (.iaload, 1) := by decide +kernel
theorem dL_law_304 : decode cL_law 304 = .ok (.invokevirtual 47, 3) := by decide +kernel
theorem dL_law_307 : decode cL_law 307 = .ok (.if_icmp .eq 332, 3) := by decide +kernel
theorem dL_law_310 : decode cL_law 310 = .ok (.iconst 0, 1) := by decide +kernel
theorem dL_law_311 : decode cL_law 311 = .ok (.ireturn, 1) := by decide +kernel
theorem dL_law_312 : decode cL_law 312 = .ok (.aload_n 1, 1) := by decide +kernel
theorem dL_law_313 : decode cL_law 313 = .ok (.aload_n 0, 1) := by decide +kernel
theorem dL_law_314 : decode cL_law 314 = .ok (.iload_n 3, 1) := by decide +kernel
theorem dL_law_315 : decode cL_law 315 = .ok (.iconst 1, 1) := by decide +kernel
theorem dL_law_316 : decode cL_law 316 = .ok (.iadd, 1) := by decide +kernel
theorem dL_law_317 : decode cL_law 317 = .ok (.iaload, 1) := by decide +kernel
theorem dL_law_318 : decode cL_law 318 = .ok (.invokevirtual 48, 3) := by decide +kernel
theorem dL_law_321 : decode cL_law 321 = .ok (.aload_n 2, 1) := by decide +kernel
theorem dL_law_322 : decode cL_law 322 = .ok (.aload_n 0, 1) := by decide +kernel
theorem dL_law_323 : decode cL_law 323 = .ok (.iload_n 3, 1) := by decide +kernel
theorem dL_law_324 : decode cL_law 324 = .ok (.iconst 1, 1) := by decide +kernel
theorem dL_law_325 : decode cL_law 325 = .ok (.iadd, 1) := by decide +kernel
theorem dL_law_326 : decode cL_law 326 = .ok (.iaload, 1) := by decide +kernel
theorem dL_law_327 : decode cL_law 327 = .ok (.invokevirtual 51, 3) := by decide +kernel
theorem dL_law_330 : decode cL_law 330 = .ok (.if_icmp .eq 309, 3) := by decide +kernel
theorem dL_law_333 : decode cL_law 333 = .ok (.iconst 0, 1) := by decide +kernel
theorem dL_law_334 : decode cL_law 334 = .ok (.ireturn, 1) := by decide +kernel
theorem dL_law_335 : decode cL_law 335 = .ok (.aload_n 1, 1) := by decide +kernel
theorem dL_law_336 : decode cL_law 336 = .ok (.invokevirtual 52, 3) := by decide +kernel
theorem dL_law_339 : decode cL_law 339 = .ok (.aload_n 2, 1) := by decide +kernel
theorem dL_law_340 : decode cL_law 340 = .ok (.invokevirtual 55, 3) := by decide +kernel
theorem dL_law_343 : decode cL_law 343 = .ok (.if_icmp .eq 296, 3) := by decide +kernel
theorem dL_law_346 : decode cL_law 346 = .ok (.iconst 0, 1) := by decide +kernel
theorem dL_law_347 : decode cL_law 347 = .ok (.ireturn, 1) := by decide +kernel
theorem dL_law_348 : decode cL_law 348 = .ok (.aload_n 1, 1) := by decide +kernel
theorem dL_law_349 : decode cL_law 349 = .ok (.aload_n 0, 1) := by decide +kernel
theorem dL_law_350 : decode cL_law 350 = .ok (.iload_n 3, 1) := by decide +kernel
theorem dL_law_351 : decode cL_law 351 = .ok (.iconst 1, 1) := by decide +kernel
theorem dL_law_352 : decode cL_law 352 = .ok (.iadd, 1) := by decide +kernel
theorem dL_law_353 : decode cL_law 353 = .ok (.iaload, 1) := by decide +kernel
theorem dL_law_354 : decode cL_law 354 = .ok (.aload_n 0, 1) := by decide +kernel
theorem dL_law_355 : decode cL_law 355 = .ok (.iload_n 3, 1) := by decide +kernel
theorem dL_law_356 : decode cL_law 356 = .ok (.iconst 2, 1) := by decide +kernel
theorem dL_law_357 : decode cL_law 357 = .ok (.iadd, 1) := by decide +kernel
theorem dL_law_358 : decode cL_law 358 = .ok (.iaload, 1) := by decide +kernel
theorem dL_law_359 : decode cL_law 359 = .ok (.invokevirtual 56, 3) := by decide +kernel
theorem dL_law_362 : decode cL_law 362 = .ok (.aload_n 2, 1) := by decide +kernel
theorem dL_law_363 : decode cL_law 363 = .ok (.aload_n 0, 1) := by decide +kernel
theorem dL_law_364 : decode cL_law 364 = .ok (.iload_n 3, 1) := by decide +kernel
theorem dL_law_365 : decode cL_law 365 = .ok (.iconst 1, 1) := by decide +kernel
theorem dL_law_366 : decode cL_law 366 = .ok (.iadd, 1) := by decide +kernel
theorem dL_law_367 : decode cL_law 367 = .ok (.iaload, 1) := by decide +kernel
theorem dL_law_368 : decode cL_law 368 = .ok (.aload_n 0, 1) := by decide +kernel
theorem dL_law_369 : decode cL_law 369 = .ok (.iload_n 3, 1) := by decide +kernel
theorem dL_law_370 : decode cL_law 370 = .ok (.iconst 2, 1) := by decide +kernel
theorem dL_law_371 : decode cL_law 371 = .ok (.iadd, 1) := by decide +kernel
theorem dL_law_372 : decode cL_law 372 = .ok (.iaload, 1) := by decide +kernel
theorem dL_law_373 : decode cL_law 373 = .ok (.invokevirtual 59, 3) := by decide +kernel
theorem dL_law_376 : decode cL_law 376 = .ok (.if_icmp .eq 263, 3) := by decide +kernel
theorem dL_law_379 : decode cL_law 379 = .ok (.iconst 0, 1) := by decide +kernel
theorem dL_law_380 : decode cL_law 380 = .ok (.ireturn, 1) := by decide +kernel
theorem dL_law_381 : decode cL_law 381 = .ok (.aload_n 1, 1) := by decide +kernel
theorem dL_law_382 : decode cL_law 382 = .ok (.aload_n 0, 1) := by decide +kernel
theorem dL_law_383 : decode cL_law 383 = .ok (.iload_n 3, 1) := by decide +kernel
theorem dL_law_384 : decode cL_law 384 = .ok (.iconst 1, 1) := by decide +kernel
theorem dL_law_385 : decode cL_law 385 = .ok (.iadd, 1) := by decide +kernel
theorem dL_law_386 : decode cL_law 386 = .ok (.iaload, 1) := by decide +kernel
theorem dL_law_387 : decode cL_law 387 = .ok (.aload_n 0, 1) := by decide +kernel
theorem dL_law_388 : decode cL_law 388 = .ok (.iload_n 3, 1) := by decide +kernel
theorem dL_law_389 : decode cL_law 389 = .ok (.iconst 2, 1) := by decide +kernel
theorem dL_law_390 : decode cL_law 390 = .ok (.iadd, 1) := by decide +kernel
theorem dL_law_391 : decode cL_law 391 = .ok (.iaload, 1) := by decide +kernel
theorem dL_law_392 : decode cL_law 392 = .ok (.aload_n 0, 1) := by decide +kernel
theorem dL_law_393 : decode cL_law 393 = .ok (.iload_n 3, 1) := by decide +kernel
theorem dL_law_394 : decode cL_law 394 = .ok (.iconst 3, 1) := by decide +kernel
theorem dL_law_395 : decode cL_law 395 = .ok (.iadd, 1) := by decide +kernel
theorem dL_law_396 : decode cL_law 396 = .ok (.iaload, 1) := by decide +kernel
theorem dL_law_397 : decode cL_law 397 = .ok (.invokevirtual 60, 3) := by decide +kernel
theorem dL_law_400 : decode cL_law 400 = .ok (.aload_n 2, 1) := by decide +kernel
theorem dL_law_401 : decode cL_law 401 = .ok (.aload_n 0, 1) := by decide +kernel
theorem dL_law_402 : decode cL_law 402 = .ok (.iload_n 3, 1) := by decide +kernel
theorem dL_law_403 : decode cL_law 403 = .ok (.iconst 1, 1) := by decide +kernel
theorem dL_law_404 : decode cL_law 404 = .ok (.iadd, 1) := by decide +kernel
theorem dL_law_405 : decode cL_law 405 = .ok (.iaload, 1) := by decide +kernel
theorem dL_law_406 : decode cL_law 406 = .ok (.aload_n 0, 1) := by decide +kernel
theorem dL_law_407 : decode cL_law 407 = .ok (.iload_n 3, 1) := by decide +kernel
theorem dL_law_408 : decode cL_law 408 = .ok (.iconst 2, 1) := by decide +kernel
theorem dL_law_409 : decode cL_law 409 = .ok (.iadd, 1) := by decide +kernel
theorem dL_law_410 : decode cL_law 410 = .ok (.iaload, 1) := by decide +kernel
theorem dL_law_411 : decode cL_law 411 = .ok (.aload_n 0, 1) := by decide +kernel
theorem dL_law_412 : decode cL_law 412 = .ok (.iload_n 3, 1) := by decide +kernel
theorem dL_law_413 : decode cL_law 413 = .ok (.iconst 3, 1) := by decide +kernel
theorem dL_law_414 : decode cL_law 414 = .ok (.iadd, 1) := by decide +kernel
theorem dL_law_415 : decode cL_law 415 = .ok (.iaload, 1) := by decide +kernel
theorem dL_law_416 : decode cL_law 416 = .ok (.invokevirtual 64, 3) := by decide +kernel
theorem dL_law_419 : decode cL_law 419 = .ok (.if_icmp .eq 220, 3) := by decide +kernel
theorem dL_law_422 : decode cL_law 422 = .ok (.iconst 0, 1) := by decide +kernel
theorem dL_law_423 : decode cL_law 423 = .ok (.ireturn, 1) := by decide +kernel
theorem dL_law_424 : decode cL_law 424 = .ok (.aload_n 1, 1) := by decide +kernel
theorem dL_law_425 : decode cL_law 425 = .ok (.aload_n 0, 1) := by decide +kernel
theorem dL_law_426 : decode cL_law 426 = .ok (.iload_n 3, 1) := by decide +kernel
theorem dL_law_427 : decode cL_law 427 = .ok (.iconst 1, 1) := by decide +kernel
theorem dL_law_428 : decode cL_law 428 = .ok (.iadd, 1) := by decide +kernel
theorem dL_law_429 : decode cL_law 429 = .ok (.iaload, 1) := by decide +kernel
theorem dL_law_430 : decode cL_law 430 = .ok (.aload_n 0, 1) := by decide +kernel
theorem dL_law_431 : decode cL_law 431 = .ok (.iload_n 3, 1) := by decide +kernel
theorem dL_law_432 : decode cL_law 432 = .ok (.iconst 2, 1) := by decide +kernel
theorem dL_law_433 : decode cL_law 433 = .ok (.iadd, 1) := by decide +kernel
theorem dL_law_434 : decode cL_law 434 = .ok (.iaload, 1) := by decide +kernel
theorem dL_law_435 : decode cL_law 435 = .ok (.invokevirtual 65, 3) := by decide +kernel
theorem dL_law_438 : decode cL_law 438 = .ok (.aload_n 2, 1) := by decide +kernel
theorem dL_law_439 : decode cL_law 439 = .ok (.aload_n 0, 1) := by decide +kernel
theorem dL_law_440 : decode cL_law 440 = .ok (.iload_n 3, 1) := by decide +kernel
theorem dL_law_441 : decode cL_law 441 = .ok (.iconst 1, 1) := by decide +kernel
theorem dL_law_442 : decode cL_law 442 = .ok (.iadd, 1) := by decide +kernel
theorem dL_law_443 : decode cL_law 443 = .ok (.iaload, 1) := by decide +kernel
theorem dL_law_444 : decode cL_law 444 = .ok (.aload_n 0, 1) := by decide +kernel
theorem dL_law_445 : decode cL_law 445 = .ok (.iload_n 3, 1) := by decide +kernel
theorem dL_law_446 : decode cL_law 446 = .ok (.iconst 2, 1) := by decide +kernel
theorem dL_law_447 : decode cL_law 447 = .ok (.iadd, 1) := by decide +kernel
theorem dL_law_448 : decode cL_law 448 = .ok (.iaload, 1) := by decide +kernel
theorem dL_law_449 : decode cL_law 449 = .ok (.invokevirtual 68, 3) := by decide +kernel
theorem dL_law_452 : decode cL_law 452 = .ok (.if_icmp .eq 187, 3) := by decide +kernel
theorem dL_law_455 : decode cL_law 455 = .ok (.iconst 0, 1) := by decide +kernel
theorem dL_law_456 : decode cL_law 456 = .ok (.ireturn, 1) := by decide +kernel
theorem dL_law_457 : decode cL_law 457 = .ok (.aload_n 1, 1) := by decide +kernel
theorem dL_law_458 : decode cL_law 458 = .ok (.aload_n 0, 1) := by decide +kernel
theorem dL_law_459 : decode cL_law 459 = .ok (.iload_n 3, 1) := by decide +kernel
theorem dL_law_460 : decode cL_law 460 = .ok (.iconst 1, 1) := by decide +kernel
theorem dL_law_461 : decode cL_law 461 = .ok (.iadd, 1) := by decide +kernel
theorem dL_law_462 : decode cL_law 462 = .ok (.iaload, 1) := by decide +kernel
theorem dL_law_463 : decode cL_law 463 = .ok (.aload_n 0, 1) := by decide +kernel
theorem dL_law_464 : decode cL_law 464 = .ok (.iload_n 3, 1) := by decide +kernel
theorem dL_law_465 : decode cL_law 465 = .ok (.iconst 2, 1) := by decide +kernel
theorem dL_law_466 : decode cL_law 466 = .ok (.iadd, 1) := by decide +kernel
theorem dL_law_467 : decode cL_law 467 = .ok (.iaload, 1) := by decide +kernel
theorem dL_law_468 : decode cL_law 468 = .ok (.invokevirtual 69, 3) := by decide +kernel
theorem dL_law_471 : decode cL_law 471 = .ok (.aload_n 2, 1) := by decide +kernel
theorem dL_law_472 : decode cL_law 472 = .ok (.aload_n 0, 1) := by decide +kernel
theorem dL_law_473 : decode cL_law 473 = .ok (.iload_n 3, 1) := by decide +kernel
theorem dL_law_474 : decode cL_law 474 = .ok (.iconst 1, 1) := by decide +kernel
theorem dL_law_475 : decode cL_law 475 = .ok (.iadd, 1) := by decide +kernel
theorem dL_law_476 : decode cL_law 476 = .ok (.iaload, 1) := by decide +kernel
theorem dL_law_477 : decode cL_law 477 = .ok (.aload_n 0, 1) := by decide +kernel
theorem dL_law_478 : decode cL_law 478 = .ok (.iload_n 3, 1) := by decide +kernel
theorem dL_law_479 : decode cL_law 479 = .ok (.iconst 2, 1) := by decide +kernel
theorem dL_law_480 : decode cL_law 480 = .ok (.iadd, 1) := by decide +kernel
theorem dL_law_481 : decode cL_law 481 = .ok (.iaload, 1) := by decide +kernel
theorem dL_law_482 : decode cL_law 482 = .ok (.invokevirtual 72, 3) := by decide +kernel
theorem dL_law_485 : decode cL_law 485 = .ok (.if_icmp .eq 154, 3) := by decide +kernel
theorem dL_law_488 : decode cL_law 488 = .ok (.iconst 0, 1) := by decide +kernel
theorem dL_law_489 : decode cL_law 489 = .ok (.ireturn, 1) := by decide +kernel
theorem dL_law_490 : decode cL_law 490 = .ok (.aload_n 1, 1) := by decide +kernel
theorem dL_law_491 : decode cL_law 491 = .ok (.aload_n 0, 1) := by decide +kernel
theorem dL_law_492 : decode cL_law 492 = .ok (.iload_n 3, 1) := by decide +kernel
theorem dL_law_493 : decode cL_law 493 = .ok (.iconst 1, 1) := by decide +kernel
theorem dL_law_494 : decode cL_law 494 = .ok (.iadd, 1) := by decide +kernel
theorem dL_law_495 : decode cL_law 495 = .ok (.iaload, 1) := by decide +kernel
theorem dL_law_496 : decode cL_law 496 = .ok (.invokevirtual 73, 3) := by decide +kernel
theorem dL_law_499 : decode cL_law 499 = .ok (.aload_n 2, 1) := by decide +kernel
theorem dL_law_500 : decode cL_law 500 = .ok (.aload_n 0, 1) := by decide +kernel
theorem dL_law_501 : decode cL_law 501 = .ok (.iload_n 3, 1) := by decide +kernel
theorem dL_law_502 : decode cL_law 502 = .ok (.iconst 1, 1) := by decide +kernel
theorem dL_law_503 : decode cL_law 503 = .ok (.iadd, 1) := by decide +kernel
theorem dL_law_504 : decode cL_law 504 = .ok (.iaload, 1) := by decide +kernel
theorem dL_law_505 : decode cL_law 505 = .ok (.invokevirtual 76, 3) := by decide +kernel
theorem dL_law_508 : decode cL_law 508 = .ok (.if_icmp .eq 131, 3) := by decide +kernel
theorem dL_law_511 : decode cL_law 511 = .ok (.iconst 0, 1) := by decide +kernel
theorem dL_law_512 : decode cL_law 512 = .ok (.ireturn, 1) := by decide +kernel
theorem dL_law_513 : decode cL_law 513 = .ok (.aload_n 1, 1) := by decide +kernel
theorem dL_law_514 : decode cL_law 514 = .ok (.aload_n 0, 1) := by decide +kernel
theorem dL_law_515 : decode cL_law 515 = .ok (.iload_n 3, 1) := by decide +kernel
theorem dL_law_516 : decode cL_law 516 = .ok (.iconst 1, 1) := by decide +kernel
theorem dL_law_517 : decode cL_law 517 = .ok (.iadd, 1) := by decide +kernel
theorem dL_law_518 : decode cL_law 518 = .ok (.iaload, 1) := by decide +kernel
theorem dL_law_519 : decode cL_law 519 = .ok (.invokevirtual 77, 3) := by decide +kernel
theorem dL_law_522 : decode cL_law 522 = .ok (.aload_n 2, 1) := by decide +kernel
theorem dL_law_523 : decode cL_law 523 = .ok (.aload_n 0, 1) := by decide +kernel
theorem dL_law_524 : decode cL_law 524 = .ok (.iload_n 3, 1) := by decide +kernel
theorem dL_law_525 : decode cL_law 525 = .ok (.iconst 1, 1) := by decide +kernel
theorem dL_law_526 : decode cL_law 526 = .ok (.iadd, 1) := by decide +kernel
theorem dL_law_527 : decode cL_law 527 = .ok (.iaload, 1) := by decide +kernel
theorem dL_law_528 : decode cL_law 528 = .ok (.invokevirtual 80, 3) := by decide +kernel
theorem dL_law_531 : decode cL_law 531 = .ok (.if_icmp .eq 108, 3) := by decide +kernel
theorem dL_law_534 : decode cL_law 534 = .ok (.iconst 0, 1) := by decide +kernel
theorem dL_law_535 : decode cL_law 535 = .ok (.ireturn, 1) := by decide +kernel
theorem dL_law_536 : decode cL_law 536 = .ok (.aload_n 1, 1) := by decide +kernel
theorem dL_law_537 : decode cL_law 537 = .ok (.aload_n 0, 1) := by decide +kernel
theorem dL_law_538 : decode cL_law 538 = .ok (.iload_n 3, 1) := by decide +kernel
theorem dL_law_539 : decode cL_law 539 = .ok (.iconst 1, 1) := by decide +kernel
theorem dL_law_540 : decode cL_law 540 = .ok (.iadd, 1) := by decide +kernel
theorem dL_law_541 : decode cL_law 541 = .ok (.iaload, 1) := by decide +kernel
theorem dL_law_542 : decode cL_law 542 = .ok (.invokevirtual 81, 3) := by decide +kernel
theorem dL_law_545 : decode cL_law 545 = .ok (.aload_n 2, 1) := by decide +kernel
theorem dL_law_546 : decode cL_law 546 = .ok (.aload_n 0, 1) := by decide +kernel
theorem dL_law_547 : decode cL_law 547 = .ok (.iload_n 3, 1) := by decide +kernel
theorem dL_law_548 : decode cL_law 548 = .ok (.iconst 1, 1) := by decide +kernel
theorem dL_law_549 : decode cL_law 549 = .ok (.iadd, 1) := by decide +kernel
theorem dL_law_550 : decode cL_law 550 = .ok (.iaload, 1) := by decide +kernel
theorem dL_law_551 : decode cL_law 551 = .ok (.invokevirtual 85, 3) := by decide +kernel
theorem dL_law_554 : decode cL_law 554 = .ok (.lcmp, 1) := by decide +kernel
theorem dL_law_555 : decode cL_law 555 = .ok (.ifCond .eq 84, 3) := by decide +kernel
theorem dL_law_558 : decode cL_law 558 = .ok (.iconst 0, 1) := by decide +kernel
theorem dL_law_559 : decode cL_law 559 = .ok (.ireturn, 1) := by decide +kernel
theorem dL_law_560 : decode cL_law 560 = .ok (.aload_n 1, 1) := by decide +kernel
theorem dL_law_561 : decode cL_law 561 = .ok (.aload_n 0, 1) := by decide +kernel
theorem dL_law_562 : decode cL_law 562 = .ok (.iload_n 3, 1) := by decide +kernel
theorem dL_law_563 : decode cL_law 563 = .ok (.iconst 1, 1) := by decide +kernel
theorem dL_law_564 : decode cL_law 564 = .ok (.iadd, 1) := by decide +kernel
theorem dL_law_565 : decode cL_law 565 = .ok (.iaload, 1) := by decide +kernel
theorem dL_law_566 : decode cL_law 566 = .ok (.aload_n 0, 1) := by decide +kernel
theorem dL_law_567 : decode cL_law 567 = .ok (.iload_n 3, 1) := by decide +kernel
theorem dL_law_568 : decode cL_law 568 = .ok (.iconst 2, 1) := by decide +kernel
theorem dL_law_569 : decode cL_law 569 = .ok (.iadd, 1) := by decide +kernel
theorem dL_law_570 : decode cL_law 570 = .ok (.iaload, 1) := by decide +kernel
theorem dL_law_571 : decode cL_law 571 = .ok (.invokevirtual 86, 3) := by decide +kernel
theorem dL_law_574 : decode cL_law 574 = .ok (.aload_n 2, 1) := by decide +kernel
theorem dL_law_575 : decode cL_law 575 = .ok (.aload_n 0, 1) := by decide +kernel
theorem dL_law_576 : decode cL_law 576 = .ok (.iload_n 3, 1) := by decide +kernel
theorem dL_law_577 : decode cL_law 577 = .ok (.iconst 1, 1) := by decide +kernel
theorem dL_law_578 : decode cL_law 578 = .ok (.iadd, 1) := by decide +kernel
theorem dL_law_579 : decode cL_law 579 = .ok (.iaload, 1) := by decide +kernel
theorem dL_law_580 : decode cL_law 580 = .ok (.aload_n 0, 1) := by decide +kernel
theorem dL_law_581 : decode cL_law 581 = .ok (.iload_n 3, 1) := by decide +kernel
theorem dL_law_582 : decode cL_law 582 = .ok (.iconst 2, 1) := by decide +kernel
theorem dL_law_583 : decode cL_law 583 = .ok (.iadd, 1) := by decide +kernel
theorem dL_law_584 : decode cL_law 584 = .ok (.iaload, 1) := by decide +kernel
theorem dL_law_585 : decode cL_law 585 = .ok (.invokevirtual 89, 3) := by decide +kernel
theorem dL_law_588 : decode cL_law 588 = .ok (.if_icmp .eq 51, 3) := by decide +kernel
theorem dL_law_591 : decode cL_law 591 = .ok (.iconst 0, 1) := by decide +kernel
theorem dL_law_592 : decode cL_law 592 = .ok (.ireturn, 1) := by decide +kernel
theorem dL_law_593 : decode cL_law 593 = .ok (.aload_n 1, 1) := by decide +kernel
theorem dL_law_594 : decode cL_law 594 = .ok (.aload_n 0, 1) := by decide +kernel
theorem dL_law_595 : decode cL_law 595 = .ok (.iload_n 3, 1) := by decide +kernel
theorem dL_law_596 : decode cL_law 596 = .ok (.iconst 1, 1) := by decide +kernel
theorem dL_law_597 : decode cL_law 597 = .ok (.iadd, 1) := by decide +kernel
theorem dL_law_598 : decode cL_law 598 = .ok (.iaload, 1) := by decide +kernel
theorem dL_law_599 : decode cL_law 599 = .ok (.invokevirtual 90, 3) := by decide +kernel
theorem dL_law_602 : decode cL_law 602 = .ok (.aload_n 2, 1) := by decide +kernel
theorem dL_law_603 : decode cL_law 603 = .ok (.aload_n 0, 1) := by decide +kernel
theorem dL_law_604 : decode cL_law 604 = .ok (.iload_n 3, 1) := by decide +kernel
theorem dL_law_605 : decode cL_law 605 = .ok (.iconst 1, 1) := by decide +kernel
theorem dL_law_606 : decode cL_law 606 = .ok (.iadd, 1) := by decide +kernel
theorem dL_law_607 : decode cL_law 607 = .ok (.iaload, 1) := by decide +kernel
theorem dL_law_608 : decode cL_law 608 = .ok (.invokevirtual 93, 3) := by decide +kernel
theorem dL_law_611 : decode cL_law 611 = .ok (.if_icmp .eq 28, 3) := by decide +kernel
theorem dL_law_614 : decode cL_law 614 = .ok (.iconst 0, 1) := by decide +kernel
theorem dL_law_615 : decode cL_law 615 = .ok (.ireturn, 1) := by decide +kernel
theorem dL_law_616 : decode cL_law 616 = .ok (.aload_n 1, 1) := by decide +kernel
theorem dL_law_617 : decode cL_law 617 = .ok (.aload_n 0, 1) := by decide +kernel
theorem dL_law_618 : decode cL_law 618 = .ok (.iload_n 3, 1) := by decide +kernel
theorem dL_law_619 : decode cL_law 619 = .ok (.iconst 1, 1) := by decide +kernel
theorem dL_law_620 : decode cL_law 620 = .ok (.iadd, 1) := by decide +kernel
theorem dL_law_621 : decode cL_law 621 = .ok (.iaload, 1) := by decide +kernel
theorem dL_law_622 : decode cL_law 622 = .ok (.invokevirtual 94, 3) := by decide +kernel
theorem dL_law_625 : decode cL_law 625 = .ok (.aload_n 2, 1) := by decide +kernel
theorem dL_law_626 : decode cL_law 626 = .ok (.aload_n 0, 1) := by decide +kernel
theorem dL_law_627 : decode cL_law 627 = .ok (.iload_n 3, 1) := by decide +kernel
theorem dL_law_628 : decode cL_law 628 = .ok (.iconst 1, 1) := by decide +kernel
theorem dL_law_629 : decode cL_law 629 = .ok (.iadd, 1) := by decide +kernel
theorem dL_law_630 : decode cL_law 630 = .ok (.iaload, 1) := by decide +kernel
theorem dL_law_631 : decode cL_law 631 = .ok (.invokevirtual 97, 3) := by decide +kernel
theorem dL_law_634 : decode cL_law 634 = .ok (.if_icmp .eq 5, 3) := by decide +kernel
theorem dL_law_637 : decode cL_law 637 = .ok (.iconst 0, 1) := by decide +kernel
theorem dL_law_638 : decode cL_law 638 = .ok (.ireturn, 1) := by decide +kernel
theorem dL_law_639 : decode cL_law 639 = .ok (.iinc 3 4, 3) := by decide +kernel
theorem dL_law_642 : decode cL_law 642 = .ok (.goto (-624), 3) := by decide +kernel
theorem dL_law_645 : decode cL_law 645 = .ok (.iconst 1, 1) := by decide +kernel
theorem dL_law_646 : decode cL_law 646 = .ok (.ireturn, 1) := by decide +kernel
end
section
section
/-! the state of a side: its int cells by number, its long cells by number; and the words that the pure texts are made of -/
abbrev IS : Type := Nat → Nat → Int32
abbrev JS : Type := Nat → Nat → Int64
def q_up (x : IS) (c : Nat) (f : Nat → Int32) : IS := fun b => if b = c then f else x b
def q_upJ (x : JS) (c : Nat) (f : Nat → Int64) : JS := fun b => if b = c then f else x b
def q_let {α β : Type} (v : α) (k : α → β) : β := k v
def q_jn {α β : Type} (k : α) (b : α → β) : β := b k
def q_gd {β : Type} (c : Prop) [Decidable c] (e : Option β) : Option β := if c then e else none
def q_b1 {α β : Type} (o : Option α) (k : α → Option β) : Option β := match o with
  | none => none
  | some a => k a
def q_b2 {α γ β : Type} (o : Option (α × γ)) (k : α → γ → Option β) : Option β := match o with
  | none => none
  | some a => k a.1 a.2
def q_b3 {α γ δ β : Type} (o : Option (α × γ × δ)) (k : α → γ → δ → Option β) : Option β := match o with
  | none => none
  | some a => k a.1 a.2.1 a.2.2
abbrev q_in (i : Int32) (n : Nat) : Prop := ¬ i < 0 ∧ i.toNatClampNeg < n
theorem q_let_e {α β : Type} {v c : α} {k : α → Option β} {r : β} (h : q_let v k = some r) (e : c = v) : k c = some r := by subst e; exact h
theorem q_jn_e {α β : Type} {k : α} {b : α → Option β} {r : β} (h : q_jn k b = some r) : ∃ j, j = k ∧ b j = some r := ⟨k, rfl, h⟩
theorem q_gd_e {β : Type} {c : Prop} [Decidable c] {e : Option β} {r : β} (h : q_gd c e = some r) : c ∧ e = some r := by
  unfold q_gd at h
  split at h
  · exact ⟨‹_›, h⟩
  · cases h
theorem q_b1_e {α β : Type} {o : Option α} {k : α → Option β} {r : β} (h : q_b1 o k = some r) : ∃ a, o = some a ∧ k a = some r := by
  cases o with
  | none => cases h
  | some a => exact ⟨a, rfl, h⟩
theorem q_b2_e {α γ β : Type} {o : Option (α × γ)} {k : α → γ → Option β} {r : β} (h : q_b2 o k = some r) : ∃ a b, o = some (a, b) ∧ k a b = some r := by
  cases o with
  | none => cases h
  | some a => exact ⟨a.1, a.2, rfl, h⟩
theorem q_b3_e {α γ δ β : Type} {o : Option (α × γ × δ)} {k : α → γ → δ → Option β} {r : β} (h : q_b3 o k = some r) : ∃ a b c, o = some (a, b, c) ∧ k a b c = some r := by
  cases o with
  | none => cases h
  | some a => exact ⟨a.1, a.2.1, a.2.2, rfl, h⟩
theorem q_it {β : Type} {c : Prop} [Decidable c] {a b : Option β} {r : β} (h : (if c then a else b) = some r) (hc : c) : a = some r := by rw [if_pos hc] at h; exact h
theorem q_ie {β : Type} {c : Prop} [Decidable c] {a b : Option β} {r : β} (h : (if c then a else b) = some r) (hc : ¬ c) : b = some r := by rw [if_neg hc] at h; exact h
theorem q_vp {i : Int32} {n : Nat} (h : q_in i n) : vp_in i n := fun q => q.elim h.1 (fun q => absurd h.2 (Nat.not_lt.mpr q))
theorem q_ne {v k : Int32} (h : ¬ v = k) : v.toInt ≠ k.toInt := fun e => h (Int32.toInt_inj.mp e)
end
section
/-! what is read of the start and stays: links to nest mates, String constants, static rows -/
def q_LW (k : Nat) : Int32 := [3, 1, 4, 2, 1].getD k 0
def q_DW (k : Nat) : Int32 := [4, 2, 1, 1, 0, 0, 0, 0].getD k 0
def q_FC (k : Nat) : Int32 := [3, 1, 4, 1, 5, 40, 6, 2, 3, 1, 9, 7, 50, 48, 5, 3, 2, 1, 6, 20].getD k 0
def q_LL (k : Nat) : Int32 := [1, 0, 1, 1, 1].getD k 0
def q_LM (k : Nat) : Int32 := [6, 3, 12, 40, 40].getD k 0
def q_len : List Nat := [5, 5, 5, 5, 4, 4, 4]
def q_byt : List (List Int32) := [[109, 111, 100, 101, 32], [99, 101, 108, 108, 32], [108, 111, 111, 107, 32], [100, 105, 99, 101, 32], [98, 111, 116, 104], [109, 111, 114, 101], [108, 101, 115, 115]]
def q_N (U : State) : Prop :=
  va_Nw (.methodLinkNest RX3 60 yX6_isLook RX6) U ∧ va_Nw (.methodLinkNest RX5 40 yX6_isLook RX6) U ∧
  va_Nw (.fieldLinkNest RX3 18 "RankedEchoes" "LOOK_WITHOUT" "[I" RX6) U ∧ va_Nw (.fieldLinkNest RX5 15 "RankedEchoes" "LOOK_WITHOUT" "[I" RX6) U ∧ va_Nw (.fieldLinkNest RX5 37 "RankedEchoes" "DICE_WITHOUT" "[I" RX6) U ∧
  va_Nw (.methodLinkNest RX6 9 yX4_init RX6) U ∧ va_Nw (.methodLinkNest RX6 18 yX5_init RX6) U ∧ va_Nw (.methodLinkNest RX6 25 yX3_init RX6) U ∧ va_Nw (.methodLinkNest RX6 32 yX0_init RX6) U ∧ va_Nw (.methodLinkNest RX6 39 yX1_init RX6) U ∧ va_Nw (.methodLinkNest RX6 46 yX2_init RX6) U
def q_T (g : Nat → Nat) (U : State) : Prop := vk_R RX4 35 "mode " (g 10) U ∧ vk_R RX4 44 "cell " (g 11) U ∧ vk_R RX4 54 "look " (g 12) U ∧ vk_R RX4 59 "dice " (g 13) U ∧ vk_R RX4 64 "both" (g 14) U ∧ vk_R RX4 69 "more" (g 15) U ∧ vk_R RX4 71 "less" (g 16) U
def q_Z1 (n : String) (t N : Nat) (f : Nat → Int32) (A : Nat → Prop) (U : State) (H : Heap) : Prop := va_Z "RankedEchoes" n "[I" (.ref t) A U H ∧ va_T .int t N (fun j => .int (f j)) A U H
def q_Z (g : Nat → Nat) (A : Nat → Prop) (U : State) (H : Heap) : Prop :=
  q_Z1 "LOOK_WITHOUT" (g 0) 5 q_LW A U H ∧ q_Z1 "DICE_WITHOUT" (g 1) 8 q_DW A U H ∧ q_Z1 "FIRST_CELLS" (g 2) 20 q_FC A U H ∧ q_Z1 "LOOK_LEAST" (g 3) 5 q_LL A U H ∧ q_Z1 "LOOK_MOST" (g 4) 5 q_LM A U H ∧
  va_Z "java/lang/String" "COMPACT_STRINGS" "Z" (.int 1) A U H ∧ va_Zq "jdk/internal/util/Preconditions" "SIOOBE_FORMATTER" "Ljava/util/function/BiFunction;" A U H ∧
  vk_S 7 q_len q_byt (fun i => g (10 + i)) (fun i => g (20 + i)) A U H
def q_E (g : Nat → Nat) (A : Nat → Prop) (U : State) (H : Heap) : Prop := q_N U ∧ q_T g U ∧ q_Z g A U H
theorem q_N.warm {s U : State} (hW : s.WarmedH U.vm) (h : q_N s) : q_N U := by
  obtain ⟨a, b, c, d, e, f, g, h, i, j, k⟩ := h
  exact ⟨a.warmM hW, b.warmM hW, c.warmF hW, d.warmF hW, e.warmF hW, f.warmM hW, g.warmM hW, h.warmM hW, i.warmM hW, j.warmM hW, k.warmM hW⟩
theorem q_N.same {s U : State} (hv : s.vm = U.vm) (h : q_N s) : q_N U := by
  obtain ⟨a, b, c, d, e, f, g, h, i, j, k⟩ := h
  exact ⟨a.same rfl hv, b.same rfl hv, c.same rfl hv, d.same rfl hv, e.same rfl hv, f.same rfl hv, g.same rfl hv, h.same rfl hv, i.same rfl hv, j.same rfl hv, k.same rfl hv⟩
theorem q_T.warm {g : Nat → Nat} {s U : State} (hW : s.WarmedH U.vm) (h : q_T g s) : q_T g U := by
  obtain ⟨a, b, c, d, e, f, i⟩ := h
  exact ⟨a.warm hW, b.warm hW, c.warm hW, d.warm hW, e.warm hW, f.warm hW, i.warm hW⟩
theorem q_T.same {g : Nat → Nat} {s U : State} (hv : s.vm = U.vm) (h : q_T g s) : q_T g U := by
  obtain ⟨a, b, c, d, e, f, i⟩ := h
  exact ⟨a.same hv.symm, b.same hv.symm, c.same hv.symm, d.same hv.symm, e.same hv.symm, f.same hv.symm, i.same hv.symm⟩
theorem q_Z1.to {n : String} {t N : Nat} {f : Nat → Int32} {A B : Nat → Prop} {u U : State} {H H1 : Heap} (h : q_Z1 n t N f A u H) (hvm : u.vm.Alike U.vm) (hq : ∀ a : Nat, a < H.size → ¬ A a → H1[a]? = H[a]?) (hAB : ∀ q, B q → A q) : q_Z1 n t N f B U H1 :=
  ⟨((h.1.kept hq).narrow hAB).moved hvm, ((h.2.kept hq).narrow hAB).moved hvm⟩
theorem q_Z.to {g : Nat → Nat} {A B : Nat → Prop} {u U : State} {H H1 : Heap} (h : q_Z g A u H) (hvm : u.vm.Alike U.vm) (hq : ∀ a : Nat, a < H.size → ¬ A a → H1[a]? = H[a]?) (hAB : ∀ q, B q → A q) : q_Z g B U H1 := by
  obtain ⟨a, b, c, d, e, f, i, j⟩ := h
  refine ⟨a.to hvm hq hAB, b.to hvm hq hAB, c.to hvm hq hAB, d.to hvm hq hAB, e.to hvm hq hAB, ((f.kept hq).narrow hAB).moved hvm, ?_, ((j.kept hq).narrow hAB).moved hvm⟩
  rcases i with i | ⟨t, i⟩
  · exact Or.inl (((i.kept hq).narrow hAB).moved hvm)
  · exact Or.inr ⟨t, ((i.kept hq).narrow hAB).moved hvm⟩
theorem q_E.to {g : Nat → Nat} {A B : Nat → Prop} {s U : State} {H : Heap} {locs : List Loc} (h : q_E g A s s.heap) (hS : va_S A s.heap H locs) (hAB : ∀ q, B q → A q) (hU : U.heap = H) (hW : s.WarmedH U.vm) : q_E g B U U.heap := by
  rw [hU]
  exact ⟨h.1.warm hW, h.2.1.warm hW, h.2.2.to hW.alike hS.2.1 hAB⟩
theorem q_E.same {g : Nat → Nat} {A : Nat → Prop} {s U : State} (h : q_E g A s s.heap) (hv : s.vm = U.vm) (hh : U.heap = s.heap) : q_E g A U U.heap := by
  rw [hh]
  exact ⟨h.1.same hv, h.2.1.same hv, h.2.2.to (by rw [hv]; exact Vm.Alike.refl U.vm) (fun _ _ _ => rfl) (fun _ h => h)⟩
end
section
variable {p : Program} {l : Launch} {e : Env} {R : Room} {s : State} {m : MethodId} {args : Array Value} {below : List Frame} {meth : Method} {c : Code} {cc : ByteArray} {nL : Nat} {own : String} {H : Heap} {locs : List Loc} {cells slots : Nat} {Q : State → Prop} {pc : Nat} {ls : Array Slot} {rest : List Value} {A : Nat → Prop} {D : va_G} {cI cJ : ClassId} {g : Nat → Nat}
/-! contracts over whole worlds, and the rows of calls -/
abbrev q_ty (cI cJ : ClassId) : List (ClassId × FieldType) := [(cI, .int), (cJ, .long)]
def q_M (p : Program) (m : MethodId) (c : Code) (cc : ByteArray) (nL : Nat) (s : State) (args : Array Value) (own : String) (D : va_G) (cI cJ : ClassId) (A : Nat → Prop) (g : Nat → Nat) : Prop :=
  CallFix p m c cc nL s args lw_big own ∧ va_K D vwCl (q_ty cI cJ) s ∧ (∀ q, s.heap.size ≤ q → A q) ∧ q_E g A s s.heap
def q_Pre (D : va_G) (cI cJ : ClassId) (g : Nat → Nat) (w : va_W) (av : List Value) (sz : Nat) : Array Value → State → Prop :=
  va_Pc av (fun U => U.heap.size = sz ∧ va_P D vwCl w U.heap ∧ va_K D vwCl (q_ty cI cJ) U ∧ va_D (fun _ => True) w ∧ q_E g (va_A w sz) U U.heap)
def q_Wd (D : va_G) (cI cJ : ClassId) (A : Nat → Prop) (w : va_W) (t : State) : Prop := va_P D vwCl w t.heap ∧ va_K D vwCl (q_ty cI cJ) t ∧ va_D A w
def q_ws (y : MethodName) (cc : ByteArray) (n : Nat) (ret : Option FieldType) : List Cond := Cond.code y cc n ret :: lw_big
def q_Mi (l : Launch) (y : MethodName) (cc : ByteArray) (n : Nat) (ty : FieldType) (rm : Room) (D : va_G) (cI cJ : ClassId) (g : Nat → Nat) (w : va_W) (av : List Value) (r : Int32) (w' : va_W) : Prop :=
  ∀ sz, Met l y (q_ws y cc n (some ty)) rm (q_Pre D cI cJ g w av sz) (va_Qi (fun r2 (_ : Unit) => r2 = r ∧ narrow ty (.int r) = .int r) (fun _ t => q_Wd D cI cJ (va_A w sz) w' t) (va_A w sz)) 0 0 (va_A w sz)
def q_Ml (l : Launch) (y : MethodName) (cc : ByteArray) (n : Nat) (rm : Room) (D : va_G) (cI cJ : ClassId) (g : Nat → Nat) (w : va_W) (av : List Value) (r : Int64) (w' : va_W) : Prop :=
  ∀ sz, Met l y (q_ws y cc n (some .long)) rm (q_Pre D cI cJ g w av sz) (va_Ql (fun r2 (_ : Unit) => r2 = r) (fun _ t => q_Wd D cI cJ (va_A w sz) w' t) (va_A w sz)) 0 0 (va_A w sz)
def q_Mv (l : Launch) (y : MethodName) (cc : ByteArray) (n : Nat) (rm : Room) (D : va_G) (cI cJ : ClassId) (g : Nat → Nat) (w : va_W) (av : List Value) (w' : va_W) : Prop :=
  ∀ sz, Met l y (q_ws y cc n none) rm (q_Pre D cI cJ g w av sz) (va_Qv (fun (_ : Unit) => True) (fun _ t => q_Wd D cI cJ (va_A w sz) w' t) (va_A w sz)) 0 0 (va_A w sz)
theorem q_ofi {y : MethodName} {maxL : Nat} {ty : FieldType} {rm : Room} {w : va_W} {av : List Value} {ρ : Type} {res : ρ} (rv : ρ → Int32) (rw : ρ → va_W) (hy : plainName y.cls = true) (hlen : (lg_sl av).length ≤ maxL)
    (body : ∀ (p : Program) (e : Env) (s : State) (m : MethodId) (args : Array Value) (below : List Frame) (meth : Method) (c : Code) (A : Nat → Prop) (Q : State → Prop), q_M p m c cc maxL s args y.cls D cI cJ A g →
      (∀ (u : ρ) (pc : Nat) (H : Heap) (locs : List Loc) (ls : Array Slot), some u = some res → narrow ty (.int (rv u)) = .int (rv u) → decode cc pc = .ok (.ireturn, 1) → va_P D vwCl (rw u) H → va_D A (rw u) → va_S A s.heap H locs → W p l e rm s m args below meth c H locs 0 0 Q (F0 m pc ls [.int (rv u)])) →
      ∀ ls : Array Slot, lv_has ls maxL (lv_args 0 av) → va_P D vwCl w s.heap → va_D A w → va_S A s.heap s.heap [] → W p l e rm s m args below meth c s.heap [] 0 0 Q (F0 m 0 ls [])) :
    q_Mi l y cc maxL ty rm D cI cJ g w av (rv res) (rw res) := by
  intro sz
  refine Met.ofW (cc := cc) (maxL := maxL) (ret := some ty) hy rfl ?_
  intro p e s m args below meth c s₁ B hml hv
  obtain ⟨rfl, rfl, hP, hK, hD0, hE⟩ := hv
  have hts := atoms_spec (ws := q_ws y cc maxL (some ty)) B.pre
  have hB : ∀ w ∈ lw_big, w.before av.toArray s = true := fun w h => hts w (List.mem_cons_of_mem _ h)
  have hown : s.vm.findClass y.cls = some m.cls := findClass_of_methodNamed B.named
  have hlocks := B.notSynchronized
  have hD := hD0.self (sz := s.heap.size)
  have hl := lv_entry av hlen
  rw [lg_entry_eq]
  refine body p e s m av.toArray below meth c (va_A w s.heap.size) _ ⟨⟨B.exec, B.bytes, hml, hown, hB⟩, hK, fun q h => Or.inr h, hE⟩ ?_ _ hl hP hD va_S.rf
  intro u pc H locs ls hu hn hd hP hD hS
  obtain rfl := Option.some.inj hu
  exact W.zret B.exec B.bytes B.returns hn (fun t ht hW => ⟨⟨rv u, (), rfl, ⟨rfl, hn⟩, by rw [ht]; exact hP, va_K.moved hW.alike hK, hD⟩, hS.F ht⟩) hS.2.2 hd
theorem q_ofl {y : MethodName} {maxL : Nat} {rm : Room} {w : va_W} {av : List Value} {ρ : Type} {res : ρ} (rv : ρ → Int64) (rw : ρ → va_W) (hy : plainName y.cls = true) (hlen : (lg_sl av).length ≤ maxL)
    (body : ∀ (p : Program) (e : Env) (s : State) (m : MethodId) (args : Array Value) (below : List Frame) (meth : Method) (c : Code) (A : Nat → Prop) (Q : State → Prop), q_M p m c cc maxL s args y.cls D cI cJ A g →
      (∀ (u : ρ) (pc : Nat) (H : Heap) (locs : List Loc) (ls : Array Slot), some u = some res → decode cc pc = .ok (.lreturn, 1) → va_P D vwCl (rw u) H → va_D A (rw u) → va_S A s.heap H locs → W p l e rm s m args below meth c H locs 0 0 Q (F0 m pc ls [.long (rv u)])) →
      ∀ ls : Array Slot, lv_has ls maxL (lv_args 0 av) → va_P D vwCl w s.heap → va_D A w → va_S A s.heap s.heap [] → W p l e rm s m args below meth c s.heap [] 0 0 Q (F0 m 0 ls [])) :
    q_Ml l y cc maxL rm D cI cJ g w av (rv res) (rw res) := by
  intro sz
  refine Met.ofW (cc := cc) (maxL := maxL) (ret := some .long) hy rfl ?_
  intro p e s m args below meth c s₁ B hml hv
  obtain ⟨rfl, rfl, hP, hK, hD0, hE⟩ := hv
  have hts := atoms_spec (ws := q_ws y cc maxL (some .long)) B.pre
  have hB : ∀ w ∈ lw_big, w.before av.toArray s = true := fun w h => hts w (List.mem_cons_of_mem _ h)
  have hown : s.vm.findClass y.cls = some m.cls := findClass_of_methodNamed B.named
  have hlocks := B.notSynchronized
  have hD := hD0.self (sz := s.heap.size)
  have hl := lv_entry av hlen
  rw [lg_entry_eq]
  refine body p e s m av.toArray below meth c (va_A w s.heap.size) _ ⟨⟨B.exec, B.bytes, hml, hown, hB⟩, hK, fun q h => Or.inr h, hE⟩ ?_ _ hl hP hD va_S.rf
  intro u pc H locs ls hu hd hP hD hS
  obtain rfl := Option.some.inj hu
  exact W.lret B.exec B.bytes B.returns (fun t ht hW => ⟨⟨rv u, (), rfl, rfl, by rw [ht]; exact hP, va_K.moved hW.alike hK, hD⟩, hS.F ht⟩) hS.2.2 hd
theorem q_ofv {y : MethodName} {maxL : Nat} {rm : Room} {w : va_W} {av : List Value} {ρ : Type} {res : ρ} (rw : ρ → va_W) (hy : plainName y.cls = true) (hlen : (lg_sl av).length ≤ maxL)
    (body : ∀ (p : Program) (e : Env) (s : State) (m : MethodId) (args : Array Value) (below : List Frame) (meth : Method) (c : Code) (A : Nat → Prop) (Q : State → Prop), q_M p m c cc maxL s args y.cls D cI cJ A g →
      (∀ (u : ρ) (pc : Nat) (H : Heap) (locs : List Loc) (ls : Array Slot), some u = some res → decode cc pc = .ok (.return_, 1) → va_P D vwCl (rw u) H → va_D A (rw u) → va_S A s.heap H locs → W p l e rm s m args below meth c H locs 0 0 Q (F0 m pc ls [])) →
      ∀ ls : Array Slot, lv_has ls maxL (lv_args 0 av) → va_P D vwCl w s.heap → va_D A w → va_S A s.heap s.heap [] → W p l e rm s m args below meth c s.heap [] 0 0 Q (F0 m 0 ls [])) :
    q_Mv l y cc maxL rm D cI cJ g w av (rw res) := by
  intro sz
  refine Met.ofW (cc := cc) (maxL := maxL) (ret := none) hy rfl ?_
  intro p e s m args below meth c s₁ B hml hv
  obtain ⟨rfl, rfl, hP, hK, hD0, hE⟩ := hv
  have hts := atoms_spec (ws := q_ws y cc maxL none) B.pre
  have hB : ∀ w ∈ lw_big, w.before av.toArray s = true := fun w h => hts w (List.mem_cons_of_mem _ h)
  have hown : s.vm.findClass y.cls = some m.cls := findClass_of_methodNamed B.named
  have hlocks := B.notSynchronized
  have hD := hD0.self (sz := s.heap.size)
  have hl := lv_entry av hlen
  rw [lg_entry_eq]
  refine body p e s m av.toArray below meth c (va_A w s.heap.size) _ ⟨⟨B.exec, B.bytes, hml, hown, hB⟩, hK, fun q h => Or.inr h, hE⟩ ?_ _ hl hP hD va_S.rf
  intro u pc H locs ls hu hd hP hD hS
  obtain rfl := Option.some.inj hu
  exact W.vret B.exec B.bytes B.returns (fun t ht hW => ⟨⟨(), rfl, trivial, by rw [ht]; exact hP, va_K.moved hW.alike hK, hD⟩, hS.F ht⟩) hS.2.2 hd
end
end
section
section
variable {p : Program} {l : Launch} {e : Env} {R : Room} {s : State} {m : MethodId} {args : Array Value} {below : List Frame} {meth : Method} {c : Code} {cc : ByteArray} {nL : Nat} {own : String} {H : Heap} {locs : List Loc} {cells slots : Nat} {Q : State → Prop} {pc : Nat} {ls : Array Slot} {rest : List Value} {A : Nat → Prop} {D : va_G} {cI cJ : ClassId} {g : Nat → Nat}
theorem q_no {β : Type} {r : β} {P : Prop} (h : (none : Option β) = some r) : P := by cases h
def q_Y (y : MethodName) (cc : ByteArray) (n : Nat) (ret : Option FieldType) (k : Nat) : Prop := Cond.code y cc n ret ∈ lw_big ∧ Cond.instanceMethod y ∈ lw_big ∧ Cond.selects y.cls y y ∈ lw_big ∧ Cond.initialized y.cls ∈ lw_big ∧ y.cls ≠ "java/lang/invoke/MethodHandle" ∧ y.cls ≠ "java/lang/invoke/VarHandle" ∧ (parseMethodDescriptor y.desc).map (fun d => d.parameters.length) = some k
def q_YS (y : MethodName) (cc : ByteArray) (n : Nat) (ret : Option FieldType) (k : Nat) : Prop := Cond.code y cc n ret ∈ lw_big ∧ Cond.static y ∈ lw_big ∧ Cond.initialized y.cls ∈ lw_big ∧ y.cls ≠ "java/lang/invoke/MethodHandle" ∧ y.cls ≠ "java/lang/invoke/VarHandle" ∧ (parseMethodDescriptor y.desc).map (fun d => d.parameters.length) = some k
theorem q_good {y : MethodName} {cc : ByteArray} {n : Nat} {ret : Option FieldType} (h : Cond.code y cc n ret ∈ lw_big) : GoodIn lw_big (q_ws y cc n ret) := fun w hw => (List.mem_cons.mp hw).elim (fun e => e ▸ big_good _ h) (fun h => big_good w h)
theorem q_len_of {y : MethodName} {k : Nat} (h : (parseMethodDescriptor y.desc).map (fun d => d.parameters.length) = some k) : ∀ sig, parseMethodDescriptor y.desc = some sig → k = sig.parameters.length := fun sig hs => by
  rw [hs] at h
  exact (Option.some.inj h).symm
theorem q_cw {y : MethodName} {yc : ByteArray} {yn : Nat} {ret : Option FieldType} {k index : Nat} {rm : Room} (hB : ∀ w ∈ lw_big, w.before args s = true) (hY : q_Y y yc yn ret k) (hlk : Cond.methodLink own index y ∈ lw_big) (hrc : rm.cells = 0) (hrs : rm.slots = 0) (hR : rm.frames + 1 ≤ R.frames ∧ 8 + (yn + 11) + rm.locals ≤ R.locals) : CallW R s args own y.cls index y yc yn ret (q_ws y yc yn ret) rm 0 0 k := by
  obtain ⟨h1, h2, h3, h4, h5, h6, h7⟩ := hY
  exact ⟨callB_of k hB (q_good h1) rfl hrc hrs (hB _ h4) (hB _ hlk) ⟨h5, h6, h7⟩ hR, hB _ h2, hB _ h3⟩
theorem q_cs {y : MethodName} {yc : ByteArray} {yn : Nat} {ret : Option FieldType} {k index : Nat} {rm : Room} (hB : ∀ w ∈ lw_big, w.before args s = true) (hY : q_YS y yc yn ret k) (hlk : Cond.methodLink own index y ∈ lw_big) (hrc : rm.cells = 0) (hrs : rm.slots = 0) (hR : rm.frames + 1 ≤ R.frames ∧ 8 + (yn + 11) + rm.locals ≤ R.locals) : CallB R s args own index y yc yn ret (q_ws y yc yn ret) rm 0 0 k ∧ (Cond.static y).before args s = true := by
  obtain ⟨h1, h2, h4, h5, h6, h7⟩ := hY
  exact ⟨callB_of k hB (q_good h1) rfl hrc hrs (hB _ h4) (hB _ hlk) ⟨h5, h6, h7⟩ hR, hB _ h2⟩
theorem q_blind {w : va_W} {av : List Value} {sz : Nat} : FrameBlind (q_Pre D cI cJ g w av sz) := fun a U gg mk q => by
  obtain ⟨q0, q1, qP, qK, qD, qE⟩ := q
  exact ⟨q0, q1, qP, va_K.moved (u := U) (U := U.calling gg mk a) (Vm.Alike.refl U.vm) qK, qD, qE.same rfl rfl⟩
theorem q_fr {w : va_W} (hM : q_M p m c cc nL s args own D cI cJ A g) (hD : va_D A w) (hS : va_S A s.heap H locs) : ∀ q, va_A w H.size q → A q := by
  rintro q (⟨k, e, h⟩ | h)
  · exact hD.2 k _ h
  · exact hM.2.2.1 q (Nat.le_trans hS.1 h)
theorem q_pre {w : va_W} {av : List Value} (hM : q_M p m c cc nL s args own D cI cJ A g) (hP : va_P D vwCl w H) (hD : va_D A w) (hS : va_S A s.heap H locs) : ∀ U : State, U.heap = H → s.WarmedH U.vm → q_Pre D cI cJ g w av H.size av.toArray U := fun U hU hW =>
  ⟨rfl, by rw [hU], by rw [hU]; exact hP, va_K.moved hW.alike hM.2.1, hD.weaken (fun _ _ _ _ => trivial), hM.2.2.2.to hS (q_fr hM hD hS) hU hW⟩
theorem q_back {w w' : va_W} {H1 : Heap} {t : State} (hM : q_M p m c cc nL s args own D cI cJ A g) (hD : va_D A w) (hS : va_S A s.heap H locs) (ht : t.heap = H1) (hB : q_Wd D cI cJ (va_A w H.size) w' t) : va_P D vwCl w' H1 ∧ va_D A w' := by
  obtain ⟨h1, h2, h3⟩ := hB
  rw [ht] at h1
  exact ⟨h1, h3.weaken (fun _ _ _ h => q_fr hM hD hS _ h)⟩
theorem q_recv {w : va_W} {b k ci : Nat} {fs : List Value} {C : String} {T : u_T} {N : Nat} (hM : q_M p m c cc nL s args own D cI cJ A g) (hP : va_P D vwCl w H) (hk : w[k]? = some (b, .inr (ci, fs))) (hc : vwCl[ci]? = some (C, T, N)) : ∃ cellB : Cell, H[b]? = some cellB ∧ cellB.vm.isStatics = false ∧ s.vm.findClass C = some cellB.cls := va_recv (q := (C, T, N)) hM.2.1 hP hc hk
theorem q_calli {y : MethodName} {yc : ByteArray} {yn n index : Nat} {ty : FieldType} {r : Int32} {rm : Room} {w w' : va_W} {b : Nat} {As st0 : List Value} (hM : q_M p m c cc nL s args own D cI cJ A g) (hC : q_Mi l y yc yn ty rm D cI cJ g w (.ref b :: As) r w') (hP : va_P D vwCl w H) (hD : va_D A w) (hS : va_S A s.heap H locs) (hY : q_Y y yc yn (some ty) n) (hlk : Cond.methodLink own index y ∈ lw_big) (hrc : rm.cells = 0) (hrs : rm.slots = 0) (hR : rm.frames + 1 ≤ R.frames ∧ 8 + (yn + 11) + rm.locals ≤ R.locals) {ci : Nat} {fs : List Value} {T : u_T} {N : Nat} (k0 : Nat) (hk : w[k0]? = some (b, .inr (ci, fs))) (hc : vwCl[ci]? = some (y.cls, T, N)) (hn : As.length = n) (hsz : ls.size = nL) (hst : st0 = As.reverse ++ .ref b :: rest) (hrm : (rest.map fun v => v.category).sum ≤ 8) (hcs : cells ≤ R.cells ∧ slots ≤ R.slots) (hdg : decode cc pc = .ok (.invokevirtual index, 3))
    (kk : ∀ (H1 : Heap) (locs1 : List Loc), narrow ty (.int r) = .int r → va_P D vwCl w' H1 → va_D A w' → va_S A s.heap H1 locs1 → W p l e R s m args below meth c H1 locs1 cells slots Q (F0 m (pc + 3) ls (.int r :: rest))) : W p l e R s m args below meth c H locs cells slots Q (F0 m pc ls st0) := by
  have hfr := q_fr hM hD hS
  refine va_calli (va_runV (As := As) (rest := rest) hM.1 (hC H.size) (q_cw hM.1.2.2.2.2 hY hlk hrc hrs hR) ⟨q_blind, q_recv hM hP hk hc, q_pre hM hP hD hS⟩ rfl hn hsz hst (lv_room hrm) hdg hcs) hS (fun q _ h => hfr q h) hfr (fun r0 u t H1 locs ht hvm hw hB hz1 hk1 hS1 => ?_)
  obtain ⟨hP1, hD1⟩ := q_back hM hD hS ht hB
  obtain ⟨rfl, hz⟩ := hw
  exact kk H1 _ hz hP1 hD1 hS1
theorem q_calliS {y : MethodName} {yc : ByteArray} {yn n index : Nat} {ty : FieldType} {r : Int32} {rm : Room} {w w' : va_W} {As st0 : List Value} (hM : q_M p m c cc nL s args own D cI cJ A g) (hC : q_Mi l y yc yn ty rm D cI cJ g w (As) r w') (hP : va_P D vwCl w H) (hD : va_D A w) (hS : va_S A s.heap H locs) (hY : q_YS y yc yn (some ty) n) (hlk : Cond.methodLink own index y ∈ lw_big) (hrc : rm.cells = 0) (hrs : rm.slots = 0) (hR : rm.frames + 1 ≤ R.frames ∧ 8 + (yn + 11) + rm.locals ≤ R.locals) (hn : As.length = n) (hsz : ls.size = nL) (hst : st0 = As.reverse ++ rest) (hrm : (rest.map fun v => v.category).sum ≤ 8) (hcs : cells ≤ R.cells ∧ slots ≤ R.slots) (hdg : decode cc pc = .ok (.invokestatic index, 3))
    (kk : ∀ (H1 : Heap) (locs1 : List Loc), narrow ty (.int r) = .int r → va_P D vwCl w' H1 → va_D A w' → va_S A s.heap H1 locs1 → W p l e R s m args below meth c H1 locs1 cells slots Q (F0 m (pc + 3) ls (.int r :: rest))) : W p l e R s m args below meth c H locs cells slots Q (F0 m pc ls st0) := by
  have hfr := q_fr hM hD hS
  refine va_calli (va_runS (As := As) (rest := rest) hM.1 (hC H.size) (q_cs hM.1.2.2.2.2 hY hlk hrc hrs hR) ⟨q_blind, q_pre hM hP hD hS⟩ rfl hn hsz hst (lv_room hrm) hdg hcs) hS (fun q _ h => hfr q h) hfr (fun r0 u t H1 locs ht hvm hw hB hz1 hk1 hS1 => ?_)
  obtain ⟨hP1, hD1⟩ := q_back hM hD hS ht hB
  obtain ⟨rfl, hz⟩ := hw
  exact kk H1 _ hz hP1 hD1 hS1
theorem q_calll {y : MethodName} {yc : ByteArray} {yn n index : Nat} {r : Int64} {rm : Room} {w w' : va_W} {b : Nat} {As st0 : List Value} (hM : q_M p m c cc nL s args own D cI cJ A g) (hC : q_Ml l y yc yn rm D cI cJ g w (.ref b :: As) r w') (hP : va_P D vwCl w H) (hD : va_D A w) (hS : va_S A s.heap H locs) (hY : q_Y y yc yn (some .long) n) (hlk : Cond.methodLink own index y ∈ lw_big) (hrc : rm.cells = 0) (hrs : rm.slots = 0) (hR : rm.frames + 1 ≤ R.frames ∧ 8 + (yn + 11) + rm.locals ≤ R.locals) {ci : Nat} {fs : List Value} {T : u_T} {N : Nat} (k0 : Nat) (hk : w[k0]? = some (b, .inr (ci, fs))) (hc : vwCl[ci]? = some (y.cls, T, N)) (hn : As.length = n) (hsz : ls.size = nL) (hst : st0 = As.reverse ++ .ref b :: rest) (hrm : (rest.map fun v => v.category).sum ≤ 8) (hcs : cells ≤ R.cells ∧ slots ≤ R.slots) (hdg : decode cc pc = .ok (.invokevirtual index, 3))
    (kk : ∀ (H1 : Heap) (locs1 : List Loc), va_P D vwCl w' H1 → va_D A w' → va_S A s.heap H1 locs1 → W p l e R s m args below meth c H1 locs1 cells slots Q (F0 m (pc + 3) ls (.long r :: rest))) : W p l e R s m args below meth c H locs cells slots Q (F0 m pc ls st0) := by
  have hfr := q_fr hM hD hS
  refine va_calll (va_runV (As := As) (rest := rest) hM.1 (hC H.size) (q_cw hM.1.2.2.2.2 hY hlk hrc hrs hR) ⟨q_blind, q_recv hM hP hk hc, q_pre hM hP hD hS⟩ rfl hn hsz hst (lv_room hrm) hdg hcs) hS (fun q _ h => hfr q h) hfr (fun r0 u t H1 locs ht hvm hw hB hz1 hk1 hS1 => ?_)
  obtain ⟨hP1, hD1⟩ := q_back hM hD hS ht hB
  obtain rfl := hw
  exact kk H1 _ hP1 hD1 hS1
theorem q_calllS {y : MethodName} {yc : ByteArray} {yn n index : Nat} {r : Int64} {rm : Room} {w w' : va_W} {As st0 : List Value} (hM : q_M p m c cc nL s args own D cI cJ A g) (hC : q_Ml l y yc yn rm D cI cJ g w (As) r w') (hP : va_P D vwCl w H) (hD : va_D A w) (hS : va_S A s.heap H locs) (hY : q_YS y yc yn (some .long) n) (hlk : Cond.methodLink own index y ∈ lw_big) (hrc : rm.cells = 0) (hrs : rm.slots = 0) (hR : rm.frames + 1 ≤ R.frames ∧ 8 + (yn + 11) + rm.locals ≤ R.locals) (hn : As.length = n) (hsz : ls.size = nL) (hst : st0 = As.reverse ++ rest) (hrm : (rest.map fun v => v.category).sum ≤ 8) (hcs : cells ≤ R.cells ∧ slots ≤ R.slots) (hdg : decode cc pc = .ok (.invokestatic index, 3))
    (kk : ∀ (H1 : Heap) (locs1 : List Loc), va_P D vwCl w' H1 → va_D A w' → va_S A s.heap H1 locs1 → W p l e R s m args below meth c H1 locs1 cells slots Q (F0 m (pc + 3) ls (.long r :: rest))) : W p l e R s m args below meth c H locs cells slots Q (F0 m pc ls st0) := by
  have hfr := q_fr hM hD hS
  refine va_calll (va_runS (As := As) (rest := rest) hM.1 (hC H.size) (q_cs hM.1.2.2.2.2 hY hlk hrc hrs hR) ⟨q_blind, q_pre hM hP hD hS⟩ rfl hn hsz hst (lv_room hrm) hdg hcs) hS (fun q _ h => hfr q h) hfr (fun r0 u t H1 locs ht hvm hw hB hz1 hk1 hS1 => ?_)
  obtain ⟨hP1, hD1⟩ := q_back hM hD hS ht hB
  obtain rfl := hw
  exact kk H1 _ hP1 hD1 hS1
theorem q_callv {y : MethodName} {yc : ByteArray} {yn n index : Nat}  {rm : Room} {w w' : va_W} {b : Nat} {As st0 : List Value} (hM : q_M p m c cc nL s args own D cI cJ A g) (hC : q_Mv l y yc yn rm D cI cJ g w (.ref b :: As) w') (hP : va_P D vwCl w H) (hD : va_D A w) (hS : va_S A s.heap H locs) (hY : q_Y y yc yn none n) (hlk : Cond.methodLink own index y ∈ lw_big) (hrc : rm.cells = 0) (hrs : rm.slots = 0) (hR : rm.frames + 1 ≤ R.frames ∧ 8 + (yn + 11) + rm.locals ≤ R.locals) {ci : Nat} {fs : List Value} {T : u_T} {N : Nat} (k0 : Nat) (hk : w[k0]? = some (b, .inr (ci, fs))) (hc : vwCl[ci]? = some (y.cls, T, N)) (hn : As.length = n) (hsz : ls.size = nL) (hst : st0 = As.reverse ++ .ref b :: rest) (hrm : (rest.map fun v => v.category).sum ≤ 8) (hcs : cells ≤ R.cells ∧ slots ≤ R.slots) (hdg : decode cc pc = .ok (.invokevirtual index, 3))
    (kk : ∀ (H1 : Heap) (locs1 : List Loc), va_P D vwCl w' H1 → va_D A w' → va_S A s.heap H1 locs1 → W p l e R s m args below meth c H1 locs1 cells slots Q (F0 m (pc + 3) ls (rest))) : W p l e R s m args below meth c H locs cells slots Q (F0 m pc ls st0) := by
  have hfr := q_fr hM hD hS
  refine va_callv (va_runV (As := As) (rest := rest) hM.1 (hC H.size) (q_cw hM.1.2.2.2.2 hY hlk hrc hrs hR) ⟨q_blind, q_recv hM hP hk hc, q_pre hM hP hD hS⟩ rfl hn hsz hst (lv_room hrm) hdg hcs) hS (fun q _ h => hfr q h) hfr (fun u t H1 locs ht hvm hw hB hz1 hk1 hS1 => ?_)
  obtain ⟨hP1, hD1⟩ := q_back hM hD hS ht hB
  exact kk H1 _ hP1 hD1 hS1
theorem q_callvS {y : MethodName} {yc : ByteArray} {yn n index : Nat}  {rm : Room} {w w' : va_W} {As st0 : List Value} (hM : q_M p m c cc nL s args own D cI cJ A g) (hC : q_Mv l y yc yn rm D cI cJ g w (As) w') (hP : va_P D vwCl w H) (hD : va_D A w) (hS : va_S A s.heap H locs) (hY : q_YS y yc yn none n) (hlk : Cond.methodLink own index y ∈ lw_big) (hrc : rm.cells = 0) (hrs : rm.slots = 0) (hR : rm.frames + 1 ≤ R.frames ∧ 8 + (yn + 11) + rm.locals ≤ R.locals) (hn : As.length = n) (hsz : ls.size = nL) (hst : st0 = As.reverse ++ rest) (hrm : (rest.map fun v => v.category).sum ≤ 8) (hcs : cells ≤ R.cells ∧ slots ≤ R.slots) (hdg : decode cc pc = .ok (.invokestatic index, 3))
    (kk : ∀ (H1 : Heap) (locs1 : List Loc), va_P D vwCl w' H1 → va_D A w' → va_S A s.heap H1 locs1 → W p l e R s m args below meth c H1 locs1 cells slots Q (F0 m (pc + 3) ls (rest))) : W p l e R s m args below meth c H locs cells slots Q (F0 m pc ls st0) := by
  have hfr := q_fr hM hD hS
  refine va_callv (va_runS (As := As) (rest := rest) hM.1 (hC H.size) (q_cs hM.1.2.2.2.2 hY hlk hrc hrs hR) ⟨q_blind, q_pre hM hP hD hS⟩ rfl hn hsz hst (lv_room hrm) hdg hcs) hS (fun q _ h => hfr q h) hfr (fun u t H1 locs ht hvm hw hB hz1 hk1 hS1 => ?_)
  obtain ⟨hP1, hD1⟩ := q_back hM hD hS ht hB
  exact kk H1 _ hP1 hD1 hS1
theorem q_calliSN {y : MethodName} {yc : ByteArray} {yn n index : Nat} {ty : FieldType} {r : Int32} {rm : Room} {w w' : va_W} {As st0 : List Value} {host : String} (hM : q_M p m c cc nL s args own D cI cJ A g) (hC : q_Mi l y yc yn ty rm D cI cJ g w (As) r w') (hP : va_P D vwCl w H) (hD : va_D A w) (hS : va_S A s.heap H locs) (hY : q_YS y yc yn (some ty) n) (hlk : va_Nw (.methodLinkNest own index y host) s) (hrc : rm.cells = 0) (hrs : rm.slots = 0) (hR : rm.frames + 1 ≤ R.frames ∧ 8 + (yn + 11) + rm.locals ≤ R.locals) (hn : As.length = n) (hsz : ls.size = nL) (hst : st0 = As.reverse ++ rest) (hrm : (rest.map fun v => v.category).sum ≤ 8) (hcs : cells ≤ R.cells ∧ slots ≤ R.slots) (hdg : decode cc pc = .ok (.invokestatic index, 3))
    (kk : ∀ (H1 : Heap) (locs1 : List Loc), narrow ty (.int r) = .int r → va_P D vwCl w' H1 → va_D A w' → va_S A s.heap H1 locs1 → W p l e R s m args below meth c H1 locs1 cells slots Q (F0 m (pc + 3) ls (.int r :: rest))) : W p l e R s m args below meth c H locs cells slots Q (F0 m pc ls st0) := by
  have hfr := q_fr hM hD hS
  have hB := hM.1.2.2.2.2
  obtain ⟨h1, h2, h4, h5, h6, h7⟩ := hY
  refine va_calli (va_runSN (As := As) (rest := rest) hM.1 (hC H.size) ⟨va_cnB n hB (q_good h1) rfl hrc hrs hlk (hB _ h4) ⟨h5, h6, h7⟩ hR, hB _ h2, trivial⟩ ⟨q_blind, q_pre hM hP hD hS⟩ rfl hn hsz hst (lv_room hrm) hdg hcs) hS (fun q _ h => hfr q h) hfr (fun r0 u t H1 locs ht hvm hw hB hz1 hk1 hS1 => ?_)
  obtain ⟨hP1, hD1⟩ := q_back hM hD hS ht hB
  obtain ⟨rfl, hz⟩ := hw
  exact kk H1 _ hz hP1 hD1 hS1
theorem q_calliT {y : MethodName} {yc : ByteArray} {yn n index : Nat} {ty : FieldType} {r : Int32} {rm : Room} {w w' : va_W} {wi : Nat} {As st0 : List Value} (hM : q_M p m c cc nL s args own D cI cJ A g) (hC : q_Mi l y yc yn ty rm D cI cJ g w (.ref (g (10 + wi)) :: As) r w') (hP : va_P D vwCl w H) (hD : va_D A w) (hS : va_S A s.heap H locs) (hY : q_Y y yc yn (some ty) n) (hyc : y.cls = "java/lang/String") (hwi : wi < 7) (hlk : Cond.methodLink own index y ∈ lw_big) (hrc : rm.cells = 0) (hrs : rm.slots = 0) (hR : rm.frames + 1 ≤ R.frames ∧ 8 + (yn + 11) + rm.locals ≤ R.locals) (hn : As.length = n) (hsz : ls.size = nL) (hst : st0 = As.reverse ++ .ref (g (10 + wi)) :: rest) (hrm : (rest.map fun v => v.category).sum ≤ 8) (hcs : cells ≤ R.cells ∧ slots ≤ R.slots) (hdg : decode cc pc = .ok (.invokevirtual index, 3))
    (kk : ∀ (H1 : Heap) (locs1 : List Loc), narrow ty (.int r) = .int r → va_P D vwCl w' H1 → va_D A w' → va_S A s.heap H1 locs1 → W p l e R s m args below meth c H1 locs1 cells slots Q (F0 m (pc + 3) ls (.int r :: rest))) : W p l e R s m args below meth c H locs cells slots Q (F0 m pc ls st0) := by
  have hfr := q_fr hM hD hS
  have hrec := vk_recv (i := wi) hM.2.2.2.2.2.2.2.2.2.2.2.2 hwi hS
  refine va_calli (va_runV (As := As) (rest := rest) hM.1 (hC H.size) (q_cw hM.1.2.2.2.2 hY hlk hrc hrs hR) ⟨q_blind, by rw [hyc]; exact hrec, q_pre hM hP hD hS⟩ rfl hn hsz hst (lv_room hrm) hdg hcs) hS (fun q _ h => hfr q h) hfr (fun r0 u t H1 locs ht hvm hw hB hz1 hk1 hS1 => ?_)
  obtain ⟨hP1, hD1⟩ := q_back hM hD hS ht hB
  obtain ⟨rfl, hz⟩ := hw
  exact kk H1 _ hz hP1 hD1 hS1
end
end
section
section
variable {p : Program} {l : Launch} {e : Env} {R : Room} {s : State} {m : MethodId} {args : Array Value} {below : List Frame} {meth : Method} {c : Code} {cc : ByteArray} {nL : Nat} {own : String} {H : Heap} {locs : List Loc} {cells slots : Nat} {Q : State → Prop} {pc : Nat} {ls : Array Slot} {rest : List Value} {A : Nat → Prop} {D : va_G} {cI cJ : ClassId} {g : Nat → Nat}
/-- the cells of side M, by the state; int components: 0 RankedEchoesModel.length, 1 RankedEchoesModel.text, 2 RankedEchoesModel.cells, 3 RankedEchoesModel.noises, 4 RankedEchoesModel.noise, 5 RankedEchoesModel.now, 6 RankedEchoesModel.was, 7 RankedEchoesModel.changes, 8 RankedEchoesModel.readCells, 9 RankedEchoesModel.readNoises, 10 RankedEchoesModel.read, 11 RankedEchoesModel.readNoise, 12 RankedEchoesModel.ends, 13 RankedEchoesModel.ranks, 14 RankedEchoesModel.ranked -/
def q_WM (cI : ClassId) (ad : Nat → Nat) (x : IS) : va_W := [(ad 0, .inr (7, [.int (x 0 0), .ref (ad 1), .int (x 2 0), .int (x 3 0), .ref (ad 2), .ref (ad 3), .ref (ad 4), .int (x 7 0), .int (x 8 0), .int (x 9 0), .ref (ad 5), .ref (ad 6), .int (x 12 0), .ref (ad 7), .int (x 14 0)])), (ad 1, .inl (cI, 200, .inl (x 1))), (ad 2, .inl (cI, 8, .inl (x 4))), (ad 3, .inl (cI, 102, .inl (x 5))), (ad 4, .inl (cI, 612, .inl (x 6))), (ad 5, .inl (cI, 102, .inl (x 10))), (ad 6, .inl (cI, 8, .inl (x 11))), (ad 7, .inl (cI, 12, .inl (x 13)))]
theorem qg_M_X7_length {ad : Nat → Nat} {x : IS} {index : Nat} (hM : q_M p m c cc nL s args own D cI cJ A g) (hP : va_P D vwCl (q_WM cI ad x) H) (hlk : Cond.fieldLink own index "RankedEchoesModel" "length" "I" ∈ lw_big) (hdg : decode cc pc = .ok (.getfield index, 3)) (kk : W p l e R s m args below meth c H locs cells slots Q (F0 m (pc + 3) ls (.int (x 0 0) :: rest))) : W p l e R s m args below meth c H locs cells slots Q (F0 m pc ls (.ref (ad 0) :: rest)) := va_get (D := D) (ci := 7) (C := RX7) (T := TX7) (N := 15) (ref := "RankedEchoesModel") hM.1.1 hM.1.2.1 hM.1.2.2.2.2 uw_X7 hM.1.2.2.2.1 hM.2.1 hP 0 rfl rfl 0 (by decide) (hM.1.2.2.2.2 _ hlk) (fun _ h9 => h9) rfl hdg kk
theorem qp_M_X7_length {ad : Nat → Nat} {x : IS} {index : Nat} {v : Int32} (hM : q_M p m c cc nL s args own D cI cJ A g) (hP : va_P D vwCl (q_WM cI ad x) H) (hD : va_D A (q_WM cI ad x)) (hS : va_S A s.heap H locs) (hlk : Cond.fieldLink own index "RankedEchoesModel" "length" "I" ∈ lw_big) (hdg : decode cc pc = .ok (.putfield index, 3)) (kk : ∀ (x1 : IS) (H1 : Heap) (locs1 : List Loc), x1 = q_up x 0 (fun _ => v) → va_P D vwCl (q_WM cI ad x1) H1 → va_D A (q_WM cI ad x1) → va_S A s.heap H1 locs1 → W p l e R s m args below meth c H1 locs1 cells slots Q (F0 m (pc + 3) ls rest)) : W p l e R s m args below meth c H locs cells slots Q (F0 m pc ls (.int v :: .ref (ad 0) :: rest)) := va_put (D := D) (ci := 7) (v := .int v) (ty := .int) (C := RX7) (T := TX7) (N := 15) (ref := "RankedEchoesModel") hM.1.1 hM.1.2.1 hM.1.2.2.2.2 uw_X7 tyX7 tyX7_ok nmX7 hM.1.2.2.2.1 hM.2.1 hP hD hS 0 rfl rfl 0 (by decide) (hM.1.2.2.2.2 _ hlk) (fun _ h9 => h9) rfl (by decide +kernel) rfl rfl (Nat.le_of_ble_eq_true rfl) hdg (fun H1 locs1 h1 h2 h3 => kk _ H1 locs1 rfl h1 h2 h3)
theorem qg_M_X7_text {ad : Nat → Nat} {x : IS} {index : Nat} (hM : q_M p m c cc nL s args own D cI cJ A g) (hP : va_P D vwCl (q_WM cI ad x) H) (hlk : Cond.fieldLink own index "RankedEchoesModel" "text" "[I" ∈ lw_big) (hdg : decode cc pc = .ok (.getfield index, 3)) (kk : W p l e R s m args below meth c H locs cells slots Q (F0 m (pc + 3) ls (.ref (ad 1) :: rest))) : W p l e R s m args below meth c H locs cells slots Q (F0 m pc ls (.ref (ad 0) :: rest)) := va_get (D := D) (ci := 7) (C := RX7) (T := TX7) (N := 15) (ref := "RankedEchoesModel") hM.1.1 hM.1.2.1 hM.1.2.2.2.2 uw_X7 hM.1.2.2.2.1 hM.2.1 hP 0 rfl rfl 1 (by decide) (hM.1.2.2.2.2 _ hlk) (fun _ h9 => h9) rfl hdg kk
theorem ql_M_X7_text {ad : Nat → Nat} {x : IS} {i : Int32} (hM : q_M p m c cc nL s args own D cI cJ A g) (hP : va_P D vwCl (q_WM cI ad x) H) (hi : q_in i 200) (hdg : decode cc pc = .ok (.iaload, 1)) (kk : W p l e R s m args below meth c H locs cells slots Q (F0 m (pc + 1) ls (.int (x 1 i.toNatClampNeg) :: rest))) : W p l e R s m args below meth c H locs cells slots Q (F0 m pc ls (.int i :: .ref (ad 1) :: rest)) := va_iald hM.1.1 hM.1.2.1 hM.2.1 hP 1 0 rfl rfl (q_vp hi) hdg kk
theorem qs_M_X7_text {ad : Nat → Nat} {x : IS} {i v : Int32} (hM : q_M p m c cc nL s args own D cI cJ A g) (hP : va_P D vwCl (q_WM cI ad x) H) (hD : va_D A (q_WM cI ad x)) (hS : va_S A s.heap H locs) (hi : q_in i 200) (hdg : decode cc pc = .ok (.iastore, 1)) (kk : ∀ (x1 : IS) (H1 : Heap) (locs1 : List Loc), x1 = q_up x 1 (upd (x 1) i.toNatClampNeg v) → va_P D vwCl (q_WM cI ad x1) H1 → va_D A (q_WM cI ad x1) → va_S A s.heap H1 locs1 → W p l e R s m args below meth c H1 locs1 cells slots Q (F0 m (pc + 1) ls rest)) : W p l e R s m args below meth c H locs cells slots Q (F0 m pc ls (.int v :: .int i :: .ref (ad 1) :: rest)) := va_iast hM.1.1 hM.1.2.1 hM.2.1 hP hD hS 1 0 rfl rfl (q_vp hi) hdg (fun H1 locs1 h1 h2 h3 => kk _ H1 locs1 rfl h1 h2 h3)
theorem qn_M_X7_text {ad : Nat → Nat} {x : IS} (hM : q_M p m c cc nL s args own D cI cJ A g) (hP : va_P D vwCl (q_WM cI ad x) H) (hdg : decode cc pc = .ok (.arraylength, 1)) (kk : W p l e R s m args below meth c H locs cells slots Q (F0 m (pc + 1) ls (.int 200 :: rest))) : W p l e R s m args below meth c H locs cells slots Q (F0 m pc ls (.ref (ad 1) :: rest)) := va_alen hM.1.1 hM.1.2.1 hM.2.1 hP 1 0 rfl (ty := .int) rfl rfl hdg kk
theorem qg_M_X7_cells {ad : Nat → Nat} {x : IS} {index : Nat} (hM : q_M p m c cc nL s args own D cI cJ A g) (hP : va_P D vwCl (q_WM cI ad x) H) (hlk : Cond.fieldLink own index "RankedEchoesModel" "cells" "I" ∈ lw_big) (hdg : decode cc pc = .ok (.getfield index, 3)) (kk : W p l e R s m args below meth c H locs cells slots Q (F0 m (pc + 3) ls (.int (x 2 0) :: rest))) : W p l e R s m args below meth c H locs cells slots Q (F0 m pc ls (.ref (ad 0) :: rest)) := va_get (D := D) (ci := 7) (C := RX7) (T := TX7) (N := 15) (ref := "RankedEchoesModel") hM.1.1 hM.1.2.1 hM.1.2.2.2.2 uw_X7 hM.1.2.2.2.1 hM.2.1 hP 0 rfl rfl 2 (by decide) (hM.1.2.2.2.2 _ hlk) (fun _ h9 => h9) rfl hdg kk
theorem qp_M_X7_cells {ad : Nat → Nat} {x : IS} {index : Nat} {v : Int32} (hM : q_M p m c cc nL s args own D cI cJ A g) (hP : va_P D vwCl (q_WM cI ad x) H) (hD : va_D A (q_WM cI ad x)) (hS : va_S A s.heap H locs) (hlk : Cond.fieldLink own index "RankedEchoesModel" "cells" "I" ∈ lw_big) (hdg : decode cc pc = .ok (.putfield index, 3)) (kk : ∀ (x1 : IS) (H1 : Heap) (locs1 : List Loc), x1 = q_up x 2 (fun _ => v) → va_P D vwCl (q_WM cI ad x1) H1 → va_D A (q_WM cI ad x1) → va_S A s.heap H1 locs1 → W p l e R s m args below meth c H1 locs1 cells slots Q (F0 m (pc + 3) ls rest)) : W p l e R s m args below meth c H locs cells slots Q (F0 m pc ls (.int v :: .ref (ad 0) :: rest)) := va_put (D := D) (ci := 7) (v := .int v) (ty := .int) (C := RX7) (T := TX7) (N := 15) (ref := "RankedEchoesModel") hM.1.1 hM.1.2.1 hM.1.2.2.2.2 uw_X7 tyX7 tyX7_ok nmX7 hM.1.2.2.2.1 hM.2.1 hP hD hS 0 rfl rfl 2 (by decide) (hM.1.2.2.2.2 _ hlk) (fun _ h9 => h9) rfl (by decide +kernel) rfl rfl (Nat.le_of_ble_eq_true rfl) hdg (fun H1 locs1 h1 h2 h3 => kk _ H1 locs1 rfl h1 h2 h3)
theorem qg_M_X7_noises {ad : Nat → Nat} {x : IS} {index : Nat} (hM : q_M p m c cc nL s args own D cI cJ A g) (hP : va_P D vwCl (q_WM cI ad x) H) (hlk : Cond.fieldLink own index "RankedEchoesModel" "noises" "I" ∈ lw_big) (hdg : decode cc pc = .ok (.getfield index, 3)) (kk : W p l e R s m args below meth c H locs cells slots Q (F0 m (pc + 3) ls (.int (x 3 0) :: rest))) : W p l e R s m args below meth c H locs cells slots Q (F0 m pc ls (.ref (ad 0) :: rest)) := va_get (D := D) (ci := 7) (C := RX7) (T := TX7) (N := 15) (ref := "RankedEchoesModel") hM.1.1 hM.1.2.1 hM.1.2.2.2.2 uw_X7 hM.1.2.2.2.1 hM.2.1 hP 0 rfl rfl 3 (by decide) (hM.1.2.2.2.2 _ hlk) (fun _ h9 => h9) rfl hdg kk
theorem qp_M_X7_noises {ad : Nat → Nat} {x : IS} {index : Nat} {v : Int32} (hM : q_M p m c cc nL s args own D cI cJ A g) (hP : va_P D vwCl (q_WM cI ad x) H) (hD : va_D A (q_WM cI ad x)) (hS : va_S A s.heap H locs) (hlk : Cond.fieldLink own index "RankedEchoesModel" "noises" "I" ∈ lw_big) (hdg : decode cc pc = .ok (.putfield index, 3)) (kk : ∀ (x1 : IS) (H1 : Heap) (locs1 : List Loc), x1 = q_up x 3 (fun _ => v) → va_P D vwCl (q_WM cI ad x1) H1 → va_D A (q_WM cI ad x1) → va_S A s.heap H1 locs1 → W p l e R s m args below meth c H1 locs1 cells slots Q (F0 m (pc + 3) ls rest)) : W p l e R s m args below meth c H locs cells slots Q (F0 m pc ls (.int v :: .ref (ad 0) :: rest)) := va_put (D := D) (ci := 7) (v := .int v) (ty := .int) (C := RX7) (T := TX7) (N := 15) (ref := "RankedEchoesModel") hM.1.1 hM.1.2.1 hM.1.2.2.2.2 uw_X7 tyX7 tyX7_ok nmX7 hM.1.2.2.2.1 hM.2.1 hP hD hS 0 rfl rfl 3 (by decide) (hM.1.2.2.2.2 _ hlk) (fun _ h9 => h9) rfl (by decide +kernel) rfl rfl (Nat.le_of_ble_eq_true rfl) hdg (fun H1 locs1 h1 h2 h3 => kk _ H1 locs1 rfl h1 h2 h3)
theorem qg_M_X7_noise {ad : Nat → Nat} {x : IS} {index : Nat} (hM : q_M p m c cc nL s args own D cI cJ A g) (hP : va_P D vwCl (q_WM cI ad x) H) (hlk : Cond.fieldLink own index "RankedEchoesModel" "noise" "[I" ∈ lw_big) (hdg : decode cc pc = .ok (.getfield index, 3)) (kk : W p l e R s m args below meth c H locs cells slots Q (F0 m (pc + 3) ls (.ref (ad 2) :: rest))) : W p l e R s m args below meth c H locs cells slots Q (F0 m pc ls (.ref (ad 0) :: rest)) := va_get (D := D) (ci := 7) (C := RX7) (T := TX7) (N := 15) (ref := "RankedEchoesModel") hM.1.1 hM.1.2.1 hM.1.2.2.2.2 uw_X7 hM.1.2.2.2.1 hM.2.1 hP 0 rfl rfl 4 (by decide) (hM.1.2.2.2.2 _ hlk) (fun _ h9 => h9) rfl hdg kk
theorem ql_M_X7_noise {ad : Nat → Nat} {x : IS} {i : Int32} (hM : q_M p m c cc nL s args own D cI cJ A g) (hP : va_P D vwCl (q_WM cI ad x) H) (hi : q_in i 8) (hdg : decode cc pc = .ok (.iaload, 1)) (kk : W p l e R s m args below meth c H locs cells slots Q (F0 m (pc + 1) ls (.int (x 4 i.toNatClampNeg) :: rest))) : W p l e R s m args below meth c H locs cells slots Q (F0 m pc ls (.int i :: .ref (ad 2) :: rest)) := va_iald hM.1.1 hM.1.2.1 hM.2.1 hP 2 0 rfl rfl (q_vp hi) hdg kk
theorem qs_M_X7_noise {ad : Nat → Nat} {x : IS} {i v : Int32} (hM : q_M p m c cc nL s args own D cI cJ A g) (hP : va_P D vwCl (q_WM cI ad x) H) (hD : va_D A (q_WM cI ad x)) (hS : va_S A s.heap H locs) (hi : q_in i 8) (hdg : decode cc pc = .ok (.iastore, 1)) (kk : ∀ (x1 : IS) (H1 : Heap) (locs1 : List Loc), x1 = q_up x 4 (upd (x 4) i.toNatClampNeg v) → va_P D vwCl (q_WM cI ad x1) H1 → va_D A (q_WM cI ad x1) → va_S A s.heap H1 locs1 → W p l e R s m args below meth c H1 locs1 cells slots Q (F0 m (pc + 1) ls rest)) : W p l e R s m args below meth c H locs cells slots Q (F0 m pc ls (.int v :: .int i :: .ref (ad 2) :: rest)) := va_iast hM.1.1 hM.1.2.1 hM.2.1 hP hD hS 2 0 rfl rfl (q_vp hi) hdg (fun H1 locs1 h1 h2 h3 => kk _ H1 locs1 rfl h1 h2 h3)
theorem qn_M_X7_noise {ad : Nat → Nat} {x : IS} (hM : q_M p m c cc nL s args own D cI cJ A g) (hP : va_P D vwCl (q_WM cI ad x) H) (hdg : decode cc pc = .ok (.arraylength, 1)) (kk : W p l e R s m args below meth c H locs cells slots Q (F0 m (pc + 1) ls (.int 8 :: rest))) : W p l e R s m args below meth c H locs cells slots Q (F0 m pc ls (.ref (ad 2) :: rest)) := va_alen hM.1.1 hM.1.2.1 hM.2.1 hP 2 0 rfl (ty := .int) rfl rfl hdg kk
theorem qg_M_X7_now {ad : Nat → Nat} {x : IS} {index : Nat} (hM : q_M p m c cc nL s args own D cI cJ A g) (hP : va_P D vwCl (q_WM cI ad x) H) (hlk : Cond.fieldLink own index "RankedEchoesModel" "now" "[I" ∈ lw_big) (hdg : decode cc pc = .ok (.getfield index, 3)) (kk : W p l e R s m args below meth c H locs cells slots Q (F0 m (pc + 3) ls (.ref (ad 3) :: rest))) : W p l e R s m args below meth c H locs cells slots Q (F0 m pc ls (.ref (ad 0) :: rest)) := va_get (D := D) (ci := 7) (C := RX7) (T := TX7) (N := 15) (ref := "RankedEchoesModel") hM.1.1 hM.1.2.1 hM.1.2.2.2.2 uw_X7 hM.1.2.2.2.1 hM.2.1 hP 0 rfl rfl 5 (by decide) (hM.1.2.2.2.2 _ hlk) (fun _ h9 => h9) rfl hdg kk
theorem ql_M_X7_now {ad : Nat → Nat} {x : IS} {i : Int32} (hM : q_M p m c cc nL s args own D cI cJ A g) (hP : va_P D vwCl (q_WM cI ad x) H) (hi : q_in i 102) (hdg : decode cc pc = .ok (.iaload, 1)) (kk : W p l e R s m args below meth c H locs cells slots Q (F0 m (pc + 1) ls (.int (x 5 i.toNatClampNeg) :: rest))) : W p l e R s m args below meth c H locs cells slots Q (F0 m pc ls (.int i :: .ref (ad 3) :: rest)) := va_iald hM.1.1 hM.1.2.1 hM.2.1 hP 3 0 rfl rfl (q_vp hi) hdg kk
theorem qs_M_X7_now {ad : Nat → Nat} {x : IS} {i v : Int32} (hM : q_M p m c cc nL s args own D cI cJ A g) (hP : va_P D vwCl (q_WM cI ad x) H) (hD : va_D A (q_WM cI ad x)) (hS : va_S A s.heap H locs) (hi : q_in i 102) (hdg : decode cc pc = .ok (.iastore, 1)) (kk : ∀ (x1 : IS) (H1 : Heap) (locs1 : List Loc), x1 = q_up x 5 (upd (x 5) i.toNatClampNeg v) → va_P D vwCl (q_WM cI ad x1) H1 → va_D A (q_WM cI ad x1) → va_S A s.heap H1 locs1 → W p l e R s m args below meth c H1 locs1 cells slots Q (F0 m (pc + 1) ls rest)) : W p l e R s m args below meth c H locs cells slots Q (F0 m pc ls (.int v :: .int i :: .ref (ad 3) :: rest)) := va_iast hM.1.1 hM.1.2.1 hM.2.1 hP hD hS 3 0 rfl rfl (q_vp hi) hdg (fun H1 locs1 h1 h2 h3 => kk _ H1 locs1 rfl h1 h2 h3)
theorem qn_M_X7_now {ad : Nat → Nat} {x : IS} (hM : q_M p m c cc nL s args own D cI cJ A g) (hP : va_P D vwCl (q_WM cI ad x) H) (hdg : decode cc pc = .ok (.arraylength, 1)) (kk : W p l e R s m args below meth c H locs cells slots Q (F0 m (pc + 1) ls (.int 102 :: rest))) : W p l e R s m args below meth c H locs cells slots Q (F0 m pc ls (.ref (ad 3) :: rest)) := va_alen hM.1.1 hM.1.2.1 hM.2.1 hP 3 0 rfl (ty := .int) rfl rfl hdg kk
theorem qg_M_X7_was {ad : Nat → Nat} {x : IS} {index : Nat} (hM : q_M p m c cc nL s args own D cI cJ A g) (hP : va_P D vwCl (q_WM cI ad x) H) (hlk : Cond.fieldLink own index "RankedEchoesModel" "was" "[I" ∈ lw_big) (hdg : decode cc pc = .ok (.getfield index, 3)) (kk : W p l e R s m args below meth c H locs cells slots Q (F0 m (pc + 3) ls (.ref (ad 4) :: rest))) : W p l e R s m args below meth c H locs cells slots Q (F0 m pc ls (.ref (ad 0) :: rest)) := va_get (D := D) (ci := 7) (C := RX7) (T := TX7) (N := 15) (ref := "RankedEchoesModel") hM.1.1 hM.1.2.1 hM.1.2.2.2.2 uw_X7 hM.1.2.2.2.1 hM.2.1 hP 0 rfl rfl 6 (by decide) (hM.1.2.2.2.2 _ hlk) (fun _ h9 => h9) rfl hdg kk
theorem ql_M_X7_was {ad : Nat → Nat} {x : IS} {i : Int32} (hM : q_M p m c cc nL s args own D cI cJ A g) (hP : va_P D vwCl (q_WM cI ad x) H) (hi : q_in i 612) (hdg : decode cc pc = .ok (.iaload, 1)) (kk : W p l e R s m args below meth c H locs cells slots Q (F0 m (pc + 1) ls (.int (x 6 i.toNatClampNeg) :: rest))) : W p l e R s m args below meth c H locs cells slots Q (F0 m pc ls (.int i :: .ref (ad 4) :: rest)) := va_iald hM.1.1 hM.1.2.1 hM.2.1 hP 4 0 rfl rfl (q_vp hi) hdg kk
theorem qs_M_X7_was {ad : Nat → Nat} {x : IS} {i v : Int32} (hM : q_M p m c cc nL s args own D cI cJ A g) (hP : va_P D vwCl (q_WM cI ad x) H) (hD : va_D A (q_WM cI ad x)) (hS : va_S A s.heap H locs) (hi : q_in i 612) (hdg : decode cc pc = .ok (.iastore, 1)) (kk : ∀ (x1 : IS) (H1 : Heap) (locs1 : List Loc), x1 = q_up x 6 (upd (x 6) i.toNatClampNeg v) → va_P D vwCl (q_WM cI ad x1) H1 → va_D A (q_WM cI ad x1) → va_S A s.heap H1 locs1 → W p l e R s m args below meth c H1 locs1 cells slots Q (F0 m (pc + 1) ls rest)) : W p l e R s m args below meth c H locs cells slots Q (F0 m pc ls (.int v :: .int i :: .ref (ad 4) :: rest)) := va_iast hM.1.1 hM.1.2.1 hM.2.1 hP hD hS 4 0 rfl rfl (q_vp hi) hdg (fun H1 locs1 h1 h2 h3 => kk _ H1 locs1 rfl h1 h2 h3)
theorem qn_M_X7_was {ad : Nat → Nat} {x : IS} (hM : q_M p m c cc nL s args own D cI cJ A g) (hP : va_P D vwCl (q_WM cI ad x) H) (hdg : decode cc pc = .ok (.arraylength, 1)) (kk : W p l e R s m args below meth c H locs cells slots Q (F0 m (pc + 1) ls (.int 612 :: rest))) : W p l e R s m args below meth c H locs cells slots Q (F0 m pc ls (.ref (ad 4) :: rest)) := va_alen hM.1.1 hM.1.2.1 hM.2.1 hP 4 0 rfl (ty := .int) rfl rfl hdg kk
theorem qg_M_X7_changes {ad : Nat → Nat} {x : IS} {index : Nat} (hM : q_M p m c cc nL s args own D cI cJ A g) (hP : va_P D vwCl (q_WM cI ad x) H) (hlk : Cond.fieldLink own index "RankedEchoesModel" "changes" "I" ∈ lw_big) (hdg : decode cc pc = .ok (.getfield index, 3)) (kk : W p l e R s m args below meth c H locs cells slots Q (F0 m (pc + 3) ls (.int (x 7 0) :: rest))) : W p l e R s m args below meth c H locs cells slots Q (F0 m pc ls (.ref (ad 0) :: rest)) := va_get (D := D) (ci := 7) (C := RX7) (T := TX7) (N := 15) (ref := "RankedEchoesModel") hM.1.1 hM.1.2.1 hM.1.2.2.2.2 uw_X7 hM.1.2.2.2.1 hM.2.1 hP 0 rfl rfl 7 (by decide) (hM.1.2.2.2.2 _ hlk) (fun _ h9 => h9) rfl hdg kk
theorem qp_M_X7_changes {ad : Nat → Nat} {x : IS} {index : Nat} {v : Int32} (hM : q_M p m c cc nL s args own D cI cJ A g) (hP : va_P D vwCl (q_WM cI ad x) H) (hD : va_D A (q_WM cI ad x)) (hS : va_S A s.heap H locs) (hlk : Cond.fieldLink own index "RankedEchoesModel" "changes" "I" ∈ lw_big) (hdg : decode cc pc = .ok (.putfield index, 3)) (kk : ∀ (x1 : IS) (H1 : Heap) (locs1 : List Loc), x1 = q_up x 7 (fun _ => v) → va_P D vwCl (q_WM cI ad x1) H1 → va_D A (q_WM cI ad x1) → va_S A s.heap H1 locs1 → W p l e R s m args below meth c H1 locs1 cells slots Q (F0 m (pc + 3) ls rest)) : W p l e R s m args below meth c H locs cells slots Q (F0 m pc ls (.int v :: .ref (ad 0) :: rest)) := va_put (D := D) (ci := 7) (v := .int v) (ty := .int) (C := RX7) (T := TX7) (N := 15) (ref := "RankedEchoesModel") hM.1.1 hM.1.2.1 hM.1.2.2.2.2 uw_X7 tyX7 tyX7_ok nmX7 hM.1.2.2.2.1 hM.2.1 hP hD hS 0 rfl rfl 7 (by decide) (hM.1.2.2.2.2 _ hlk) (fun _ h9 => h9) rfl (by decide +kernel) rfl rfl (Nat.le_of_ble_eq_true rfl) hdg (fun H1 locs1 h1 h2 h3 => kk _ H1 locs1 rfl h1 h2 h3)
theorem qg_M_X7_readCells {ad : Nat → Nat} {x : IS} {index : Nat} (hM : q_M p m c cc nL s args own D cI cJ A g) (hP : va_P D vwCl (q_WM cI ad x) H) (hlk : Cond.fieldLink own index "RankedEchoesModel" "readCells" "I" ∈ lw_big) (hdg : decode cc pc = .ok (.getfield index, 3)) (kk : W p l e R s m args below meth c H locs cells slots Q (F0 m (pc + 3) ls (.int (x 8 0) :: rest))) : W p l e R s m args below meth c H locs cells slots Q (F0 m pc ls (.ref (ad 0) :: rest)) := va_get (D := D) (ci := 7) (C := RX7) (T := TX7) (N := 15) (ref := "RankedEchoesModel") hM.1.1 hM.1.2.1 hM.1.2.2.2.2 uw_X7 hM.1.2.2.2.1 hM.2.1 hP 0 rfl rfl 8 (by decide) (hM.1.2.2.2.2 _ hlk) (fun _ h9 => h9) rfl hdg kk
theorem qp_M_X7_readCells {ad : Nat → Nat} {x : IS} {index : Nat} {v : Int32} (hM : q_M p m c cc nL s args own D cI cJ A g) (hP : va_P D vwCl (q_WM cI ad x) H) (hD : va_D A (q_WM cI ad x)) (hS : va_S A s.heap H locs) (hlk : Cond.fieldLink own index "RankedEchoesModel" "readCells" "I" ∈ lw_big) (hdg : decode cc pc = .ok (.putfield index, 3)) (kk : ∀ (x1 : IS) (H1 : Heap) (locs1 : List Loc), x1 = q_up x 8 (fun _ => v) → va_P D vwCl (q_WM cI ad x1) H1 → va_D A (q_WM cI ad x1) → va_S A s.heap H1 locs1 → W p l e R s m args below meth c H1 locs1 cells slots Q (F0 m (pc + 3) ls rest)) : W p l e R s m args below meth c H locs cells slots Q (F0 m pc ls (.int v :: .ref (ad 0) :: rest)) := va_put (D := D) (ci := 7) (v := .int v) (ty := .int) (C := RX7) (T := TX7) (N := 15) (ref := "RankedEchoesModel") hM.1.1 hM.1.2.1 hM.1.2.2.2.2 uw_X7 tyX7 tyX7_ok nmX7 hM.1.2.2.2.1 hM.2.1 hP hD hS 0 rfl rfl 8 (by decide) (hM.1.2.2.2.2 _ hlk) (fun _ h9 => h9) rfl (by decide +kernel) rfl rfl (Nat.le_of_ble_eq_true rfl) hdg (fun H1 locs1 h1 h2 h3 => kk _ H1 locs1 rfl h1 h2 h3)
theorem qg_M_X7_readNoises {ad : Nat → Nat} {x : IS} {index : Nat} (hM : q_M p m c cc nL s args own D cI cJ A g) (hP : va_P D vwCl (q_WM cI ad x) H) (hlk : Cond.fieldLink own index "RankedEchoesModel" "readNoises" "I" ∈ lw_big) (hdg : decode cc pc = .ok (.getfield index, 3)) (kk : W p l e R s m args below meth c H locs cells slots Q (F0 m (pc + 3) ls (.int (x 9 0) :: rest))) : W p l e R s m args below meth c H locs cells slots Q (F0 m pc ls (.ref (ad 0) :: rest)) := va_get (D := D) (ci := 7) (C := RX7) (T := TX7) (N := 15) (ref := "RankedEchoesModel") hM.1.1 hM.1.2.1 hM.1.2.2.2.2 uw_X7 hM.1.2.2.2.1 hM.2.1 hP 0 rfl rfl 9 (by decide) (hM.1.2.2.2.2 _ hlk) (fun _ h9 => h9) rfl hdg kk
theorem qp_M_X7_readNoises {ad : Nat → Nat} {x : IS} {index : Nat} {v : Int32} (hM : q_M p m c cc nL s args own D cI cJ A g) (hP : va_P D vwCl (q_WM cI ad x) H) (hD : va_D A (q_WM cI ad x)) (hS : va_S A s.heap H locs) (hlk : Cond.fieldLink own index "RankedEchoesModel" "readNoises" "I" ∈ lw_big) (hdg : decode cc pc = .ok (.putfield index, 3)) (kk : ∀ (x1 : IS) (H1 : Heap) (locs1 : List Loc), x1 = q_up x 9 (fun _ => v) → va_P D vwCl (q_WM cI ad x1) H1 → va_D A (q_WM cI ad x1) → va_S A s.heap H1 locs1 → W p l e R s m args below meth c H1 locs1 cells slots Q (F0 m (pc + 3) ls rest)) : W p l e R s m args below meth c H locs cells slots Q (F0 m pc ls (.int v :: .ref (ad 0) :: rest)) := va_put (D := D) (ci := 7) (v := .int v) (ty := .int) (C := RX7) (T := TX7) (N := 15) (ref := "RankedEchoesModel") hM.1.1 hM.1.2.1 hM.1.2.2.2.2 uw_X7 tyX7 tyX7_ok nmX7 hM.1.2.2.2.1 hM.2.1 hP hD hS 0 rfl rfl 9 (by decide) (hM.1.2.2.2.2 _ hlk) (fun _ h9 => h9) rfl (by decide +kernel) rfl rfl (Nat.le_of_ble_eq_true rfl) hdg (fun H1 locs1 h1 h2 h3 => kk _ H1 locs1 rfl h1 h2 h3)
theorem qg_M_X7_read {ad : Nat → Nat} {x : IS} {index : Nat} (hM : q_M p m c cc nL s args own D cI cJ A g) (hP : va_P D vwCl (q_WM cI ad x) H) (hlk : Cond.fieldLink own index "RankedEchoesModel" "read" "[I" ∈ lw_big) (hdg : decode cc pc = .ok (.getfield index, 3)) (kk : W p l e R s m args below meth c H locs cells slots Q (F0 m (pc + 3) ls (.ref (ad 5) :: rest))) : W p l e R s m args below meth c H locs cells slots Q (F0 m pc ls (.ref (ad 0) :: rest)) := va_get (D := D) (ci := 7) (C := RX7) (T := TX7) (N := 15) (ref := "RankedEchoesModel") hM.1.1 hM.1.2.1 hM.1.2.2.2.2 uw_X7 hM.1.2.2.2.1 hM.2.1 hP 0 rfl rfl 10 (by decide) (hM.1.2.2.2.2 _ hlk) (fun _ h9 => h9) rfl hdg kk
theorem ql_M_X7_read {ad : Nat → Nat} {x : IS} {i : Int32} (hM : q_M p m c cc nL s args own D cI cJ A g) (hP : va_P D vwCl (q_WM cI ad x) H) (hi : q_in i 102) (hdg : decode cc pc = .ok (.iaload, 1)) (kk : W p l e R s m args below meth c H locs cells slots Q (F0 m (pc + 1) ls (.int (x 10 i.toNatClampNeg) :: rest))) : W p l e R s m args below meth c H locs cells slots Q (F0 m pc ls (.int i :: .ref (ad 5) :: rest)) := va_iald hM.1.1 hM.1.2.1 hM.2.1 hP 5 0 rfl rfl (q_vp hi) hdg kk
theorem qs_M_X7_read {ad : Nat → Nat} {x : IS} {i v : Int32} (hM : q_M p m c cc nL s args own D cI cJ A g) (hP : va_P D vwCl (q_WM cI ad x) H) (hD : va_D A (q_WM cI ad x)) (hS : va_S A s.heap H locs) (hi : q_in i 102) (hdg : decode cc pc = .ok (.iastore, 1)) (kk : ∀ (x1 : IS) (H1 : Heap) (locs1 : List Loc), x1 = q_up x 10 (upd (x 10) i.toNatClampNeg v) → va_P D vwCl (q_WM cI ad x1) H1 → va_D A (q_WM cI ad x1) → va_S A s.heap H1 locs1 → W p l e R s m args below meth c H1 locs1 cells slots Q (F0 m (pc + 1) ls rest)) : W p l e R s m args below meth c H locs cells slots Q (F0 m pc ls (.int v :: .int i :: .ref (ad 5) :: rest)) := va_iast hM.1.1 hM.1.2.1 hM.2.1 hP hD hS 5 0 rfl rfl (q_vp hi) hdg (fun H1 locs1 h1 h2 h3 => kk _ H1 locs1 rfl h1 h2 h3)
theorem qn_M_X7_read {ad : Nat → Nat} {x : IS} (hM : q_M p m c cc nL s args own D cI cJ A g) (hP : va_P D vwCl (q_WM cI ad x) H) (hdg : decode cc pc = .ok (.arraylength, 1)) (kk : W p l e R s m args below meth c H locs cells slots Q (F0 m (pc + 1) ls (.int 102 :: rest))) : W p l e R s m args below meth c H locs cells slots Q (F0 m pc ls (.ref (ad 5) :: rest)) := va_alen hM.1.1 hM.1.2.1 hM.2.1 hP 5 0 rfl (ty := .int) rfl rfl hdg kk
theorem qg_M_X7_readNoise {ad : Nat → Nat} {x : IS} {index : Nat} (hM : q_M p m c cc nL s args own D cI cJ A g) (hP : va_P D vwCl (q_WM cI ad x) H) (hlk : Cond.fieldLink own index "RankedEchoesModel" "readNoise" "[I" ∈ lw_big) (hdg : decode cc pc = .ok (.getfield index, 3)) (kk : W p l e R s m args below meth c H locs cells slots Q (F0 m (pc + 3) ls (.ref (ad 6) :: rest))) : W p l e R s m args below meth c H locs cells slots Q (F0 m pc ls (.ref (ad 0) :: rest)) := va_get (D := D) (ci := 7) (C := RX7) (T := TX7) (N := 15) (ref := "RankedEchoesModel") hM.1.1 hM.1.2.1 hM.1.2.2.2.2 uw_X7 hM.1.2.2.2.1 hM.2.1 hP 0 rfl rfl 11 (by decide) (hM.1.2.2.2.2 _ hlk) (fun _ h9 => h9) rfl hdg kk
theorem ql_M_X7_readNoise {ad : Nat → Nat} {x : IS} {i : Int32} (hM : q_M p m c cc nL s args own D cI cJ A g) (hP : va_P D vwCl (q_WM cI ad x) H) (hi : q_in i 8) (hdg : decode cc pc = .ok (.iaload, 1)) (kk : W p l e R s m args below meth c H locs cells slots Q (F0 m (pc + 1) ls (.int (x 11 i.toNatClampNeg) :: rest))) : W p l e R s m args below meth c H locs cells slots Q (F0 m pc ls (.int i :: .ref (ad 6) :: rest)) := va_iald hM.1.1 hM.1.2.1 hM.2.1 hP 6 0 rfl rfl (q_vp hi) hdg kk
theorem qs_M_X7_readNoise {ad : Nat → Nat} {x : IS} {i v : Int32} (hM : q_M p m c cc nL s args own D cI cJ A g) (hP : va_P D vwCl (q_WM cI ad x) H) (hD : va_D A (q_WM cI ad x)) (hS : va_S A s.heap H locs) (hi : q_in i 8) (hdg : decode cc pc = .ok (.iastore, 1)) (kk : ∀ (x1 : IS) (H1 : Heap) (locs1 : List Loc), x1 = q_up x 11 (upd (x 11) i.toNatClampNeg v) → va_P D vwCl (q_WM cI ad x1) H1 → va_D A (q_WM cI ad x1) → va_S A s.heap H1 locs1 → W p l e R s m args below meth c H1 locs1 cells slots Q (F0 m (pc + 1) ls rest)) : W p l e R s m args below meth c H locs cells slots Q (F0 m pc ls (.int v :: .int i :: .ref (ad 6) :: rest)) := va_iast hM.1.1 hM.1.2.1 hM.2.1 hP hD hS 6 0 rfl rfl (q_vp hi) hdg (fun H1 locs1 h1 h2 h3 => kk _ H1 locs1 rfl h1 h2 h3)
theorem qn_M_X7_readNoise {ad : Nat → Nat} {x : IS} (hM : q_M p m c cc nL s args own D cI cJ A g) (hP : va_P D vwCl (q_WM cI ad x) H) (hdg : decode cc pc = .ok (.arraylength, 1)) (kk : W p l e R s m args below meth c H locs cells slots Q (F0 m (pc + 1) ls (.int 8 :: rest))) : W p l e R s m args below meth c H locs cells slots Q (F0 m pc ls (.ref (ad 6) :: rest)) := va_alen hM.1.1 hM.1.2.1 hM.2.1 hP 6 0 rfl (ty := .int) rfl rfl hdg kk
theorem qg_M_X7_ends {ad : Nat → Nat} {x : IS} {index : Nat} (hM : q_M p m c cc nL s args own D cI cJ A g) (hP : va_P D vwCl (q_WM cI ad x) H) (hlk : Cond.fieldLink own index "RankedEchoesModel" "ends" "I" ∈ lw_big) (hdg : decode cc pc = .ok (.getfield index, 3)) (kk : W p l e R s m args below meth c H locs cells slots Q (F0 m (pc + 3) ls (.int (x 12 0) :: rest))) : W p l e R s m args below meth c H locs cells slots Q (F0 m pc ls (.ref (ad 0) :: rest)) := va_get (D := D) (ci := 7) (C := RX7) (T := TX7) (N := 15) (ref := "RankedEchoesModel") hM.1.1 hM.1.2.1 hM.1.2.2.2.2 uw_X7 hM.1.2.2.2.1 hM.2.1 hP 0 rfl rfl 12 (by decide) (hM.1.2.2.2.2 _ hlk) (fun _ h9 => h9) rfl hdg kk
theorem qp_M_X7_ends {ad : Nat → Nat} {x : IS} {index : Nat} {v : Int32} (hM : q_M p m c cc nL s args own D cI cJ A g) (hP : va_P D vwCl (q_WM cI ad x) H) (hD : va_D A (q_WM cI ad x)) (hS : va_S A s.heap H locs) (hlk : Cond.fieldLink own index "RankedEchoesModel" "ends" "I" ∈ lw_big) (hdg : decode cc pc = .ok (.putfield index, 3)) (kk : ∀ (x1 : IS) (H1 : Heap) (locs1 : List Loc), x1 = q_up x 12 (fun _ => v) → va_P D vwCl (q_WM cI ad x1) H1 → va_D A (q_WM cI ad x1) → va_S A s.heap H1 locs1 → W p l e R s m args below meth c H1 locs1 cells slots Q (F0 m (pc + 3) ls rest)) : W p l e R s m args below meth c H locs cells slots Q (F0 m pc ls (.int v :: .ref (ad 0) :: rest)) := va_put (D := D) (ci := 7) (v := .int v) (ty := .int) (C := RX7) (T := TX7) (N := 15) (ref := "RankedEchoesModel") hM.1.1 hM.1.2.1 hM.1.2.2.2.2 uw_X7 tyX7 tyX7_ok nmX7 hM.1.2.2.2.1 hM.2.1 hP hD hS 0 rfl rfl 12 (by decide) (hM.1.2.2.2.2 _ hlk) (fun _ h9 => h9) rfl (by decide +kernel) rfl rfl (Nat.le_of_ble_eq_true rfl) hdg (fun H1 locs1 h1 h2 h3 => kk _ H1 locs1 rfl h1 h2 h3)
theorem qg_M_X7_ranks {ad : Nat → Nat} {x : IS} {index : Nat} (hM : q_M p m c cc nL s args own D cI cJ A g) (hP : va_P D vwCl (q_WM cI ad x) H) (hlk : Cond.fieldLink own index "RankedEchoesModel" "ranks" "[I" ∈ lw_big) (hdg : decode cc pc = .ok (.getfield index, 3)) (kk : W p l e R s m args below meth c H locs cells slots Q (F0 m (pc + 3) ls (.ref (ad 7) :: rest))) : W p l e R s m args below meth c H locs cells slots Q (F0 m pc ls (.ref (ad 0) :: rest)) := va_get (D := D) (ci := 7) (C := RX7) (T := TX7) (N := 15) (ref := "RankedEchoesModel") hM.1.1 hM.1.2.1 hM.1.2.2.2.2 uw_X7 hM.1.2.2.2.1 hM.2.1 hP 0 rfl rfl 13 (by decide) (hM.1.2.2.2.2 _ hlk) (fun _ h9 => h9) rfl hdg kk
theorem ql_M_X7_ranks {ad : Nat → Nat} {x : IS} {i : Int32} (hM : q_M p m c cc nL s args own D cI cJ A g) (hP : va_P D vwCl (q_WM cI ad x) H) (hi : q_in i 12) (hdg : decode cc pc = .ok (.iaload, 1)) (kk : W p l e R s m args below meth c H locs cells slots Q (F0 m (pc + 1) ls (.int (x 13 i.toNatClampNeg) :: rest))) : W p l e R s m args below meth c H locs cells slots Q (F0 m pc ls (.int i :: .ref (ad 7) :: rest)) := va_iald hM.1.1 hM.1.2.1 hM.2.1 hP 7 0 rfl rfl (q_vp hi) hdg kk
theorem qs_M_X7_ranks {ad : Nat → Nat} {x : IS} {i v : Int32} (hM : q_M p m c cc nL s args own D cI cJ A g) (hP : va_P D vwCl (q_WM cI ad x) H) (hD : va_D A (q_WM cI ad x)) (hS : va_S A s.heap H locs) (hi : q_in i 12) (hdg : decode cc pc = .ok (.iastore, 1)) (kk : ∀ (x1 : IS) (H1 : Heap) (locs1 : List Loc), x1 = q_up x 13 (upd (x 13) i.toNatClampNeg v) → va_P D vwCl (q_WM cI ad x1) H1 → va_D A (q_WM cI ad x1) → va_S A s.heap H1 locs1 → W p l e R s m args below meth c H1 locs1 cells slots Q (F0 m (pc + 1) ls rest)) : W p l e R s m args below meth c H locs cells slots Q (F0 m pc ls (.int v :: .int i :: .ref (ad 7) :: rest)) := va_iast hM.1.1 hM.1.2.1 hM.2.1 hP hD hS 7 0 rfl rfl (q_vp hi) hdg (fun H1 locs1 h1 h2 h3 => kk _ H1 locs1 rfl h1 h2 h3)
theorem qn_M_X7_ranks {ad : Nat → Nat} {x : IS} (hM : q_M p m c cc nL s args own D cI cJ A g) (hP : va_P D vwCl (q_WM cI ad x) H) (hdg : decode cc pc = .ok (.arraylength, 1)) (kk : W p l e R s m args below meth c H locs cells slots Q (F0 m (pc + 1) ls (.int 12 :: rest))) : W p l e R s m args below meth c H locs cells slots Q (F0 m pc ls (.ref (ad 7) :: rest)) := va_alen hM.1.1 hM.1.2.1 hM.2.1 hP 7 0 rfl (ty := .int) rfl rfl hdg kk
theorem qg_M_X7_ranked {ad : Nat → Nat} {x : IS} {index : Nat} (hM : q_M p m c cc nL s args own D cI cJ A g) (hP : va_P D vwCl (q_WM cI ad x) H) (hlk : Cond.fieldLink own index "RankedEchoesModel" "ranked" "I" ∈ lw_big) (hdg : decode cc pc = .ok (.getfield index, 3)) (kk : W p l e R s m args below meth c H locs cells slots Q (F0 m (pc + 3) ls (.int (x 14 0) :: rest))) : W p l e R s m args below meth c H locs cells slots Q (F0 m pc ls (.ref (ad 0) :: rest)) := va_get (D := D) (ci := 7) (C := RX7) (T := TX7) (N := 15) (ref := "RankedEchoesModel") hM.1.1 hM.1.2.1 hM.1.2.2.2.2 uw_X7 hM.1.2.2.2.1 hM.2.1 hP 0 rfl rfl 14 (by decide) (hM.1.2.2.2.2 _ hlk) (fun _ h9 => h9) rfl hdg kk
theorem qp_M_X7_ranked {ad : Nat → Nat} {x : IS} {index : Nat} {v : Int32} (hM : q_M p m c cc nL s args own D cI cJ A g) (hP : va_P D vwCl (q_WM cI ad x) H) (hD : va_D A (q_WM cI ad x)) (hS : va_S A s.heap H locs) (hlk : Cond.fieldLink own index "RankedEchoesModel" "ranked" "I" ∈ lw_big) (hdg : decode cc pc = .ok (.putfield index, 3)) (kk : ∀ (x1 : IS) (H1 : Heap) (locs1 : List Loc), x1 = q_up x 14 (fun _ => v) → va_P D vwCl (q_WM cI ad x1) H1 → va_D A (q_WM cI ad x1) → va_S A s.heap H1 locs1 → W p l e R s m args below meth c H1 locs1 cells slots Q (F0 m (pc + 3) ls rest)) : W p l e R s m args below meth c H locs cells slots Q (F0 m pc ls (.int v :: .ref (ad 0) :: rest)) := va_put (D := D) (ci := 7) (v := .int v) (ty := .int) (C := RX7) (T := TX7) (N := 15) (ref := "RankedEchoesModel") hM.1.1 hM.1.2.1 hM.1.2.2.2.2 uw_X7 tyX7 tyX7_ok nmX7 hM.1.2.2.2.1 hM.2.1 hP hD hS 0 rfl rfl 14 (by decide) (hM.1.2.2.2.2 _ hlk) (fun _ h9 => h9) rfl (by decide +kernel) rfl rfl (Nat.le_of_ble_eq_true rfl) hdg (fun H1 locs1 h1 h2 h3 => kk _ H1 locs1 rfl h1 h2 h3)
end
end
section
section
variable {p : Program} {l : Launch} {e : Env} {R : Room} {s : State} {m : MethodId} {args : Array Value} {below : List Frame} {meth : Method} {c : Code} {cc : ByteArray} {nL : Nat} {own : String} {H : Heap} {locs : List Loc} {cells slots : Nat} {Q : State → Prop} {pc : Nat} {ls : Array Slot} {rest : List Value} {A : Nat → Prop} {D : va_G} {cI cJ : ClassId} {g : Nat → Nat}
/-- the cells of side X, by the state; int components: 0 Text.letters, 1 Text.numbers, 2 Text.length, 3 Told.powers, 4 Told.look, 5 Told.weights, 6 Told.size, 7 Told.mode, 8 Row.powers, 9 Row.left, 10 Row.look, 11 Row.window, 12 Row.inWindow, 13 Row.size, 14 Row.mode, 15 Row.changed, 16 Alarms.floors, 17 Alarms.bunchOf, 18 Alarms.firsts, 19 Alarms.lasts, 20 Alarms.peaks, 21 Alarms.howMany, 22 Alarms.bunches, 23 Dice.weights, 24 Dice.together, 25 Past.kinds, 26 Past.places, 27 Past.values, 28 Past.size; long components: 0 waysByHowMany, 1 floorWays -/
def q_WX (cI cJ : ClassId) (ad : Nat → Nat) (x : IS) (j : JS) : va_W := [(ad 0, .inr (6, [.ref (ad 1), .ref (ad 2), .ref (ad 3), .ref (ad 4), .ref (ad 5), .ref (ad 6)])), (ad 1, .inr (4, [.ref (ad 7), .ref (ad 8), .int (x 2 0)])), (ad 2, .inr (5, [.ref (ad 9), .ref (ad 10), .ref (ad 11), .int (x 6 0), .int (x 7 0)])), (ad 3, .inr (3, [.ref (ad 12), .ref (ad 13), .ref (ad 14), .ref (ad 15), .int (x 12 0), .int (x 13 0), .int (x 14 0), .int (x 15 0)])), (ad 4, .inr (0, [.ref (ad 16), .ref (ad 17), .ref (ad 18), .ref (ad 19), .ref (ad 20), .int (x 21 0), .int (x 22 0)])), (ad 5, .inr (1, [.ref (ad 21), .ref (ad 22), .ref (ad 23), .int (x 24 0)])), (ad 6, .inr (2, [.ref (ad 24), .ref (ad 25), .ref (ad 26), .int (x 28 0)])), (ad 7, .inl (cI, 200, .inl (x 0))), (ad 8, .inl (cI, 48, .inl (x 1))), (ad 9, .inl (cI, 48, .inl (x 3))), (ad 10, .inl (cI, 5, .inl (x 4))), (ad 11, .inl (cI, 8, .inl (x 5))), (ad 12, .inl (cI, 48, .inl (x 8))), (ad 13, .inl (cI, 48, .inl (x 9))), (ad 14, .inl (cI, 5, .inl (x 10))), (ad 15, .inl (cI, 12, .inl (x 11))), (ad 16, .inl (cI, 48, .inl (x 16))), (ad 17, .inl (cI, 48, .inl (x 17))), (ad 18, .inl (cI, 48, .inl (x 18))), (ad 19, .inl (cI, 48, .inl (x 19))), (ad 20, .inl (cI, 48, .inl (x 20))), (ad 21, .inl (cI, 8, .inl (x 23))), (ad 22, .inl (cJ, 13, .inr (.inl (j 0)))), (ad 23, .inl (cJ, 8, .inr (.inl (j 1)))), (ad 24, .inl (cI, 6, .inl (x 25))), (ad 25, .inl (cI, 6, .inl (x 26))), (ad 26, .inl (cI, 6, .inl (x 27)))]
theorem qg_X_X6_text {ad : Nat → Nat} {x : IS} {j : JS} {index : Nat} (hM : q_M p m c cc nL s args own D cI cJ A g) (hP : va_P D vwCl (q_WX cI cJ ad x j) H) (hlk : Cond.fieldLink own index "RankedEchoes" "text" "LRankedEchoes$Text;" ∈ lw_big) (hdg : decode cc pc = .ok (.getfield index, 3)) (kk : W p l e R s m args below meth c H locs cells slots Q (F0 m (pc + 3) ls (.ref (ad 1) :: rest))) : W p l e R s m args below meth c H locs cells slots Q (F0 m pc ls (.ref (ad 0) :: rest)) := va_get (D := D) (ci := 6) (C := RX6) (T := TX6) (N := 6) (ref := "RankedEchoes") hM.1.1 hM.1.2.1 hM.1.2.2.2.2 uw_X6 hM.1.2.2.2.1 hM.2.1 hP 0 rfl rfl 0 (by decide) (hM.1.2.2.2.2 _ hlk) (fun _ h9 => h9) rfl hdg kk
theorem qg_X_X6_told {ad : Nat → Nat} {x : IS} {j : JS} {index : Nat} (hM : q_M p m c cc nL s args own D cI cJ A g) (hP : va_P D vwCl (q_WX cI cJ ad x j) H) (hlk : Cond.fieldLink own index "RankedEchoes" "told" "LRankedEchoes$Told;" ∈ lw_big) (hdg : decode cc pc = .ok (.getfield index, 3)) (kk : W p l e R s m args below meth c H locs cells slots Q (F0 m (pc + 3) ls (.ref (ad 2) :: rest))) : W p l e R s m args below meth c H locs cells slots Q (F0 m pc ls (.ref (ad 0) :: rest)) := va_get (D := D) (ci := 6) (C := RX6) (T := TX6) (N := 6) (ref := "RankedEchoes") hM.1.1 hM.1.2.1 hM.1.2.2.2.2 uw_X6 hM.1.2.2.2.1 hM.2.1 hP 0 rfl rfl 1 (by decide) (hM.1.2.2.2.2 _ hlk) (fun _ h9 => h9) rfl hdg kk
theorem qg_X_X6_row {ad : Nat → Nat} {x : IS} {j : JS} {index : Nat} (hM : q_M p m c cc nL s args own D cI cJ A g) (hP : va_P D vwCl (q_WX cI cJ ad x j) H) (hlk : Cond.fieldLink own index "RankedEchoes" "row" "LRankedEchoes$Row;" ∈ lw_big) (hdg : decode cc pc = .ok (.getfield index, 3)) (kk : W p l e R s m args below meth c H locs cells slots Q (F0 m (pc + 3) ls (.ref (ad 3) :: rest))) : W p l e R s m args below meth c H locs cells slots Q (F0 m pc ls (.ref (ad 0) :: rest)) := va_get (D := D) (ci := 6) (C := RX6) (T := TX6) (N := 6) (ref := "RankedEchoes") hM.1.1 hM.1.2.1 hM.1.2.2.2.2 uw_X6 hM.1.2.2.2.1 hM.2.1 hP 0 rfl rfl 2 (by decide) (hM.1.2.2.2.2 _ hlk) (fun _ h9 => h9) rfl hdg kk
theorem qg_X_X6_alarms {ad : Nat → Nat} {x : IS} {j : JS} {index : Nat} (hM : q_M p m c cc nL s args own D cI cJ A g) (hP : va_P D vwCl (q_WX cI cJ ad x j) H) (hlk : Cond.fieldLink own index "RankedEchoes" "alarms" "LRankedEchoes$Alarms;" ∈ lw_big) (hdg : decode cc pc = .ok (.getfield index, 3)) (kk : W p l e R s m args below meth c H locs cells slots Q (F0 m (pc + 3) ls (.ref (ad 4) :: rest))) : W p l e R s m args below meth c H locs cells slots Q (F0 m pc ls (.ref (ad 0) :: rest)) := va_get (D := D) (ci := 6) (C := RX6) (T := TX6) (N := 6) (ref := "RankedEchoes") hM.1.1 hM.1.2.1 hM.1.2.2.2.2 uw_X6 hM.1.2.2.2.1 hM.2.1 hP 0 rfl rfl 3 (by decide) (hM.1.2.2.2.2 _ hlk) (fun _ h9 => h9) rfl hdg kk
theorem qg_X_X6_dice {ad : Nat → Nat} {x : IS} {j : JS} {index : Nat} (hM : q_M p m c cc nL s args own D cI cJ A g) (hP : va_P D vwCl (q_WX cI cJ ad x j) H) (hlk : Cond.fieldLink own index "RankedEchoes" "dice" "LRankedEchoes$Dice;" ∈ lw_big) (hdg : decode cc pc = .ok (.getfield index, 3)) (kk : W p l e R s m args below meth c H locs cells slots Q (F0 m (pc + 3) ls (.ref (ad 5) :: rest))) : W p l e R s m args below meth c H locs cells slots Q (F0 m pc ls (.ref (ad 0) :: rest)) := va_get (D := D) (ci := 6) (C := RX6) (T := TX6) (N := 6) (ref := "RankedEchoes") hM.1.1 hM.1.2.1 hM.1.2.2.2.2 uw_X6 hM.1.2.2.2.1 hM.2.1 hP 0 rfl rfl 4 (by decide) (hM.1.2.2.2.2 _ hlk) (fun _ h9 => h9) rfl hdg kk
theorem qg_X_X6_past {ad : Nat → Nat} {x : IS} {j : JS} {index : Nat} (hM : q_M p m c cc nL s args own D cI cJ A g) (hP : va_P D vwCl (q_WX cI cJ ad x j) H) (hlk : Cond.fieldLink own index "RankedEchoes" "past" "LRankedEchoes$Past;" ∈ lw_big) (hdg : decode cc pc = .ok (.getfield index, 3)) (kk : W p l e R s m args below meth c H locs cells slots Q (F0 m (pc + 3) ls (.ref (ad 6) :: rest))) : W p l e R s m args below meth c H locs cells slots Q (F0 m pc ls (.ref (ad 0) :: rest)) := va_get (D := D) (ci := 6) (C := RX6) (T := TX6) (N := 6) (ref := "RankedEchoes") hM.1.1 hM.1.2.1 hM.1.2.2.2.2 uw_X6 hM.1.2.2.2.1 hM.2.1 hP 0 rfl rfl 5 (by decide) (hM.1.2.2.2.2 _ hlk) (fun _ h9 => h9) rfl hdg kk
theorem qg_X_X4_letters {ad : Nat → Nat} {x : IS} {j : JS} {index : Nat} (hM : q_M p m c cc nL s args own D cI cJ A g) (hP : va_P D vwCl (q_WX cI cJ ad x j) H) (hlk : Cond.fieldLink own index "RankedEchoes$Text" "letters" "[I" ∈ lw_big) (hdg : decode cc pc = .ok (.getfield index, 3)) (kk : W p l e R s m args below meth c H locs cells slots Q (F0 m (pc + 3) ls (.ref (ad 7) :: rest))) : W p l e R s m args below meth c H locs cells slots Q (F0 m pc ls (.ref (ad 1) :: rest)) := va_get (D := D) (ci := 4) (C := RX4) (T := TX4) (N := 3) (ref := "RankedEchoes$Text") hM.1.1 hM.1.2.1 hM.1.2.2.2.2 uw_X4 hM.1.2.2.2.1 hM.2.1 hP 1 rfl rfl 0 (by decide) (hM.1.2.2.2.2 _ hlk) (fun _ h9 => h9) rfl hdg kk
theorem ql_X_X4_letters {ad : Nat → Nat} {x : IS} {j : JS} {i : Int32} (hM : q_M p m c cc nL s args own D cI cJ A g) (hP : va_P D vwCl (q_WX cI cJ ad x j) H) (hi : q_in i 200) (hdg : decode cc pc = .ok (.iaload, 1)) (kk : W p l e R s m args below meth c H locs cells slots Q (F0 m (pc + 1) ls (.int (x 0 i.toNatClampNeg) :: rest))) : W p l e R s m args below meth c H locs cells slots Q (F0 m pc ls (.int i :: .ref (ad 7) :: rest)) := va_iald hM.1.1 hM.1.2.1 hM.2.1 hP 7 0 rfl rfl (q_vp hi) hdg kk
theorem qs_X_X4_letters {ad : Nat → Nat} {x : IS} {j : JS} {i v : Int32} (hM : q_M p m c cc nL s args own D cI cJ A g) (hP : va_P D vwCl (q_WX cI cJ ad x j) H) (hD : va_D A (q_WX cI cJ ad x j)) (hS : va_S A s.heap H locs) (hi : q_in i 200) (hdg : decode cc pc = .ok (.iastore, 1)) (kk : ∀ (x1 : IS) (H1 : Heap) (locs1 : List Loc), x1 = q_up x 0 (upd (x 0) i.toNatClampNeg v) → va_P D vwCl (q_WX cI cJ ad x1 j) H1 → va_D A (q_WX cI cJ ad x1 j) → va_S A s.heap H1 locs1 → W p l e R s m args below meth c H1 locs1 cells slots Q (F0 m (pc + 1) ls rest)) : W p l e R s m args below meth c H locs cells slots Q (F0 m pc ls (.int v :: .int i :: .ref (ad 7) :: rest)) := va_iast hM.1.1 hM.1.2.1 hM.2.1 hP hD hS 7 0 rfl rfl (q_vp hi) hdg (fun H1 locs1 h1 h2 h3 => kk _ H1 locs1 rfl h1 h2 h3)
theorem qn_X_X4_letters {ad : Nat → Nat} {x : IS} {j : JS} (hM : q_M p m c cc nL s args own D cI cJ A g) (hP : va_P D vwCl (q_WX cI cJ ad x j) H) (hdg : decode cc pc = .ok (.arraylength, 1)) (kk : W p l e R s m args below meth c H locs cells slots Q (F0 m (pc + 1) ls (.int 200 :: rest))) : W p l e R s m args below meth c H locs cells slots Q (F0 m pc ls (.ref (ad 7) :: rest)) := va_alen hM.1.1 hM.1.2.1 hM.2.1 hP 7 0 rfl (ty := .int) rfl rfl hdg kk
theorem qg_X_X4_numbers {ad : Nat → Nat} {x : IS} {j : JS} {index : Nat} (hM : q_M p m c cc nL s args own D cI cJ A g) (hP : va_P D vwCl (q_WX cI cJ ad x j) H) (hlk : Cond.fieldLink own index "RankedEchoes$Text" "numbers" "[I" ∈ lw_big) (hdg : decode cc pc = .ok (.getfield index, 3)) (kk : W p l e R s m args below meth c H locs cells slots Q (F0 m (pc + 3) ls (.ref (ad 8) :: rest))) : W p l e R s m args below meth c H locs cells slots Q (F0 m pc ls (.ref (ad 1) :: rest)) := va_get (D := D) (ci := 4) (C := RX4) (T := TX4) (N := 3) (ref := "RankedEchoes$Text") hM.1.1 hM.1.2.1 hM.1.2.2.2.2 uw_X4 hM.1.2.2.2.1 hM.2.1 hP 1 rfl rfl 1 (by decide) (hM.1.2.2.2.2 _ hlk) (fun _ h9 => h9) rfl hdg kk
theorem ql_X_X4_numbers {ad : Nat → Nat} {x : IS} {j : JS} {i : Int32} (hM : q_M p m c cc nL s args own D cI cJ A g) (hP : va_P D vwCl (q_WX cI cJ ad x j) H) (hi : q_in i 48) (hdg : decode cc pc = .ok (.iaload, 1)) (kk : W p l e R s m args below meth c H locs cells slots Q (F0 m (pc + 1) ls (.int (x 1 i.toNatClampNeg) :: rest))) : W p l e R s m args below meth c H locs cells slots Q (F0 m pc ls (.int i :: .ref (ad 8) :: rest)) := va_iald hM.1.1 hM.1.2.1 hM.2.1 hP 8 0 rfl rfl (q_vp hi) hdg kk
theorem qs_X_X4_numbers {ad : Nat → Nat} {x : IS} {j : JS} {i v : Int32} (hM : q_M p m c cc nL s args own D cI cJ A g) (hP : va_P D vwCl (q_WX cI cJ ad x j) H) (hD : va_D A (q_WX cI cJ ad x j)) (hS : va_S A s.heap H locs) (hi : q_in i 48) (hdg : decode cc pc = .ok (.iastore, 1)) (kk : ∀ (x1 : IS) (H1 : Heap) (locs1 : List Loc), x1 = q_up x 1 (upd (x 1) i.toNatClampNeg v) → va_P D vwCl (q_WX cI cJ ad x1 j) H1 → va_D A (q_WX cI cJ ad x1 j) → va_S A s.heap H1 locs1 → W p l e R s m args below meth c H1 locs1 cells slots Q (F0 m (pc + 1) ls rest)) : W p l e R s m args below meth c H locs cells slots Q (F0 m pc ls (.int v :: .int i :: .ref (ad 8) :: rest)) := va_iast hM.1.1 hM.1.2.1 hM.2.1 hP hD hS 8 0 rfl rfl (q_vp hi) hdg (fun H1 locs1 h1 h2 h3 => kk _ H1 locs1 rfl h1 h2 h3)
theorem qn_X_X4_numbers {ad : Nat → Nat} {x : IS} {j : JS} (hM : q_M p m c cc nL s args own D cI cJ A g) (hP : va_P D vwCl (q_WX cI cJ ad x j) H) (hdg : decode cc pc = .ok (.arraylength, 1)) (kk : W p l e R s m args below meth c H locs cells slots Q (F0 m (pc + 1) ls (.int 48 :: rest))) : W p l e R s m args below meth c H locs cells slots Q (F0 m pc ls (.ref (ad 8) :: rest)) := va_alen hM.1.1 hM.1.2.1 hM.2.1 hP 8 0 rfl (ty := .int) rfl rfl hdg kk
theorem qg_X_X4_length {ad : Nat → Nat} {x : IS} {j : JS} {index : Nat} (hM : q_M p m c cc nL s args own D cI cJ A g) (hP : va_P D vwCl (q_WX cI cJ ad x j) H) (hlk : Cond.fieldLink own index "RankedEchoes$Text" "length" "I" ∈ lw_big) (hdg : decode cc pc = .ok (.getfield index, 3)) (kk : W p l e R s m args below meth c H locs cells slots Q (F0 m (pc + 3) ls (.int (x 2 0) :: rest))) : W p l e R s m args below meth c H locs cells slots Q (F0 m pc ls (.ref (ad 1) :: rest)) := va_get (D := D) (ci := 4) (C := RX4) (T := TX4) (N := 3) (ref := "RankedEchoes$Text") hM.1.1 hM.1.2.1 hM.1.2.2.2.2 uw_X4 hM.1.2.2.2.1 hM.2.1 hP 1 rfl rfl 2 (by decide) (hM.1.2.2.2.2 _ hlk) (fun _ h9 => h9) rfl hdg kk
theorem qp_X_X4_length {ad : Nat → Nat} {x : IS} {j : JS} {index : Nat} {v : Int32} (hM : q_M p m c cc nL s args own D cI cJ A g) (hP : va_P D vwCl (q_WX cI cJ ad x j) H) (hD : va_D A (q_WX cI cJ ad x j)) (hS : va_S A s.heap H locs) (hlk : Cond.fieldLink own index "RankedEchoes$Text" "length" "I" ∈ lw_big) (hdg : decode cc pc = .ok (.putfield index, 3)) (kk : ∀ (x1 : IS) (H1 : Heap) (locs1 : List Loc), x1 = q_up x 2 (fun _ => v) → va_P D vwCl (q_WX cI cJ ad x1 j) H1 → va_D A (q_WX cI cJ ad x1 j) → va_S A s.heap H1 locs1 → W p l e R s m args below meth c H1 locs1 cells slots Q (F0 m (pc + 3) ls rest)) : W p l e R s m args below meth c H locs cells slots Q (F0 m pc ls (.int v :: .ref (ad 1) :: rest)) := va_put (D := D) (ci := 4) (v := .int v) (ty := .int) (C := RX4) (T := TX4) (N := 3) (ref := "RankedEchoes$Text") hM.1.1 hM.1.2.1 hM.1.2.2.2.2 uw_X4 tyX4 tyX4_ok nmX4 hM.1.2.2.2.1 hM.2.1 hP hD hS 1 rfl rfl 2 (by decide) (hM.1.2.2.2.2 _ hlk) (fun _ h9 => h9) rfl (by decide +kernel) rfl rfl (Nat.le_of_ble_eq_true rfl) hdg (fun H1 locs1 h1 h2 h3 => kk _ H1 locs1 rfl h1 h2 h3)
theorem qg_X_X5_powers {ad : Nat → Nat} {x : IS} {j : JS} {index : Nat} (hM : q_M p m c cc nL s args own D cI cJ A g) (hP : va_P D vwCl (q_WX cI cJ ad x j) H) (hlk : Cond.fieldLink own index "RankedEchoes$Told" "powers" "[I" ∈ lw_big) (hdg : decode cc pc = .ok (.getfield index, 3)) (kk : W p l e R s m args below meth c H locs cells slots Q (F0 m (pc + 3) ls (.ref (ad 9) :: rest))) : W p l e R s m args below meth c H locs cells slots Q (F0 m pc ls (.ref (ad 2) :: rest)) := va_get (D := D) (ci := 5) (C := RX5) (T := TX5) (N := 5) (ref := "RankedEchoes$Told") hM.1.1 hM.1.2.1 hM.1.2.2.2.2 uw_X5 hM.1.2.2.2.1 hM.2.1 hP 2 rfl rfl 0 (by decide) (hM.1.2.2.2.2 _ hlk) (fun _ h9 => h9) rfl hdg kk
theorem ql_X_X5_powers {ad : Nat → Nat} {x : IS} {j : JS} {i : Int32} (hM : q_M p m c cc nL s args own D cI cJ A g) (hP : va_P D vwCl (q_WX cI cJ ad x j) H) (hi : q_in i 48) (hdg : decode cc pc = .ok (.iaload, 1)) (kk : W p l e R s m args below meth c H locs cells slots Q (F0 m (pc + 1) ls (.int (x 3 i.toNatClampNeg) :: rest))) : W p l e R s m args below meth c H locs cells slots Q (F0 m pc ls (.int i :: .ref (ad 9) :: rest)) := va_iald hM.1.1 hM.1.2.1 hM.2.1 hP 9 0 rfl rfl (q_vp hi) hdg kk
theorem qs_X_X5_powers {ad : Nat → Nat} {x : IS} {j : JS} {i v : Int32} (hM : q_M p m c cc nL s args own D cI cJ A g) (hP : va_P D vwCl (q_WX cI cJ ad x j) H) (hD : va_D A (q_WX cI cJ ad x j)) (hS : va_S A s.heap H locs) (hi : q_in i 48) (hdg : decode cc pc = .ok (.iastore, 1)) (kk : ∀ (x1 : IS) (H1 : Heap) (locs1 : List Loc), x1 = q_up x 3 (upd (x 3) i.toNatClampNeg v) → va_P D vwCl (q_WX cI cJ ad x1 j) H1 → va_D A (q_WX cI cJ ad x1 j) → va_S A s.heap H1 locs1 → W p l e R s m args below meth c H1 locs1 cells slots Q (F0 m (pc + 1) ls rest)) : W p l e R s m args below meth c H locs cells slots Q (F0 m pc ls (.int v :: .int i :: .ref (ad 9) :: rest)) := va_iast hM.1.1 hM.1.2.1 hM.2.1 hP hD hS 9 0 rfl rfl (q_vp hi) hdg (fun H1 locs1 h1 h2 h3 => kk _ H1 locs1 rfl h1 h2 h3)
theorem qn_X_X5_powers {ad : Nat → Nat} {x : IS} {j : JS} (hM : q_M p m c cc nL s args own D cI cJ A g) (hP : va_P D vwCl (q_WX cI cJ ad x j) H) (hdg : decode cc pc = .ok (.arraylength, 1)) (kk : W p l e R s m args below meth c H locs cells slots Q (F0 m (pc + 1) ls (.int 48 :: rest))) : W p l e R s m args below meth c H locs cells slots Q (F0 m pc ls (.ref (ad 9) :: rest)) := va_alen hM.1.1 hM.1.2.1 hM.2.1 hP 9 0 rfl (ty := .int) rfl rfl hdg kk
theorem qg_X_X5_look {ad : Nat → Nat} {x : IS} {j : JS} {index : Nat} (hM : q_M p m c cc nL s args own D cI cJ A g) (hP : va_P D vwCl (q_WX cI cJ ad x j) H) (hlk : Cond.fieldLink own index "RankedEchoes$Told" "look" "[I" ∈ lw_big) (hdg : decode cc pc = .ok (.getfield index, 3)) (kk : W p l e R s m args below meth c H locs cells slots Q (F0 m (pc + 3) ls (.ref (ad 10) :: rest))) : W p l e R s m args below meth c H locs cells slots Q (F0 m pc ls (.ref (ad 2) :: rest)) := va_get (D := D) (ci := 5) (C := RX5) (T := TX5) (N := 5) (ref := "RankedEchoes$Told") hM.1.1 hM.1.2.1 hM.1.2.2.2.2 uw_X5 hM.1.2.2.2.1 hM.2.1 hP 2 rfl rfl 1 (by decide) (hM.1.2.2.2.2 _ hlk) (fun _ h9 => h9) rfl hdg kk
theorem ql_X_X5_look {ad : Nat → Nat} {x : IS} {j : JS} {i : Int32} (hM : q_M p m c cc nL s args own D cI cJ A g) (hP : va_P D vwCl (q_WX cI cJ ad x j) H) (hi : q_in i 5) (hdg : decode cc pc = .ok (.iaload, 1)) (kk : W p l e R s m args below meth c H locs cells slots Q (F0 m (pc + 1) ls (.int (x 4 i.toNatClampNeg) :: rest))) : W p l e R s m args below meth c H locs cells slots Q (F0 m pc ls (.int i :: .ref (ad 10) :: rest)) := va_iald hM.1.1 hM.1.2.1 hM.2.1 hP 10 0 rfl rfl (q_vp hi) hdg kk
theorem qs_X_X5_look {ad : Nat → Nat} {x : IS} {j : JS} {i v : Int32} (hM : q_M p m c cc nL s args own D cI cJ A g) (hP : va_P D vwCl (q_WX cI cJ ad x j) H) (hD : va_D A (q_WX cI cJ ad x j)) (hS : va_S A s.heap H locs) (hi : q_in i 5) (hdg : decode cc pc = .ok (.iastore, 1)) (kk : ∀ (x1 : IS) (H1 : Heap) (locs1 : List Loc), x1 = q_up x 4 (upd (x 4) i.toNatClampNeg v) → va_P D vwCl (q_WX cI cJ ad x1 j) H1 → va_D A (q_WX cI cJ ad x1 j) → va_S A s.heap H1 locs1 → W p l e R s m args below meth c H1 locs1 cells slots Q (F0 m (pc + 1) ls rest)) : W p l e R s m args below meth c H locs cells slots Q (F0 m pc ls (.int v :: .int i :: .ref (ad 10) :: rest)) := va_iast hM.1.1 hM.1.2.1 hM.2.1 hP hD hS 10 0 rfl rfl (q_vp hi) hdg (fun H1 locs1 h1 h2 h3 => kk _ H1 locs1 rfl h1 h2 h3)
theorem qn_X_X5_look {ad : Nat → Nat} {x : IS} {j : JS} (hM : q_M p m c cc nL s args own D cI cJ A g) (hP : va_P D vwCl (q_WX cI cJ ad x j) H) (hdg : decode cc pc = .ok (.arraylength, 1)) (kk : W p l e R s m args below meth c H locs cells slots Q (F0 m (pc + 1) ls (.int 5 :: rest))) : W p l e R s m args below meth c H locs cells slots Q (F0 m pc ls (.ref (ad 10) :: rest)) := va_alen hM.1.1 hM.1.2.1 hM.2.1 hP 10 0 rfl (ty := .int) rfl rfl hdg kk
theorem qg_X_X5_weights {ad : Nat → Nat} {x : IS} {j : JS} {index : Nat} (hM : q_M p m c cc nL s args own D cI cJ A g) (hP : va_P D vwCl (q_WX cI cJ ad x j) H) (hlk : Cond.fieldLink own index "RankedEchoes$Told" "weights" "[I" ∈ lw_big) (hdg : decode cc pc = .ok (.getfield index, 3)) (kk : W p l e R s m args below meth c H locs cells slots Q (F0 m (pc + 3) ls (.ref (ad 11) :: rest))) : W p l e R s m args below meth c H locs cells slots Q (F0 m pc ls (.ref (ad 2) :: rest)) := va_get (D := D) (ci := 5) (C := RX5) (T := TX5) (N := 5) (ref := "RankedEchoes$Told") hM.1.1 hM.1.2.1 hM.1.2.2.2.2 uw_X5 hM.1.2.2.2.1 hM.2.1 hP 2 rfl rfl 2 (by decide) (hM.1.2.2.2.2 _ hlk) (fun _ h9 => h9) rfl hdg kk
theorem ql_X_X5_weights {ad : Nat → Nat} {x : IS} {j : JS} {i : Int32} (hM : q_M p m c cc nL s args own D cI cJ A g) (hP : va_P D vwCl (q_WX cI cJ ad x j) H) (hi : q_in i 8) (hdg : decode cc pc = .ok (.iaload, 1)) (kk : W p l e R s m args below meth c H locs cells slots Q (F0 m (pc + 1) ls (.int (x 5 i.toNatClampNeg) :: rest))) : W p l e R s m args below meth c H locs cells slots Q (F0 m pc ls (.int i :: .ref (ad 11) :: rest)) := va_iald hM.1.1 hM.1.2.1 hM.2.1 hP 11 0 rfl rfl (q_vp hi) hdg kk
theorem qs_X_X5_weights {ad : Nat → Nat} {x : IS} {j : JS} {i v : Int32} (hM : q_M p m c cc nL s args own D cI cJ A g) (hP : va_P D vwCl (q_WX cI cJ ad x j) H) (hD : va_D A (q_WX cI cJ ad x j)) (hS : va_S A s.heap H locs) (hi : q_in i 8) (hdg : decode cc pc = .ok (.iastore, 1)) (kk : ∀ (x1 : IS) (H1 : Heap) (locs1 : List Loc), x1 = q_up x 5 (upd (x 5) i.toNatClampNeg v) → va_P D vwCl (q_WX cI cJ ad x1 j) H1 → va_D A (q_WX cI cJ ad x1 j) → va_S A s.heap H1 locs1 → W p l e R s m args below meth c H1 locs1 cells slots Q (F0 m (pc + 1) ls rest)) : W p l e R s m args below meth c H locs cells slots Q (F0 m pc ls (.int v :: .int i :: .ref (ad 11) :: rest)) := va_iast hM.1.1 hM.1.2.1 hM.2.1 hP hD hS 11 0 rfl rfl (q_vp hi) hdg (fun H1 locs1 h1 h2 h3 => kk _ H1 locs1 rfl h1 h2 h3)
theorem qn_X_X5_weights {ad : Nat → Nat} {x : IS} {j : JS} (hM : q_M p m c cc nL s args own D cI cJ A g) (hP : va_P D vwCl (q_WX cI cJ ad x j) H) (hdg : decode cc pc = .ok (.arraylength, 1)) (kk : W p l e R s m args below meth c H locs cells slots Q (F0 m (pc + 1) ls (.int 8 :: rest))) : W p l e R s m args below meth c H locs cells slots Q (F0 m pc ls (.ref (ad 11) :: rest)) := va_alen hM.1.1 hM.1.2.1 hM.2.1 hP 11 0 rfl (ty := .int) rfl rfl hdg kk
theorem qg_X_X5_size {ad : Nat → Nat} {x : IS} {j : JS} {index : Nat} (hM : q_M p m c cc nL s args own D cI cJ A g) (hP : va_P D vwCl (q_WX cI cJ ad x j) H) (hlk : Cond.fieldLink own index "RankedEchoes$Told" "size" "I" ∈ lw_big) (hdg : decode cc pc = .ok (.getfield index, 3)) (kk : W p l e R s m args below meth c H locs cells slots Q (F0 m (pc + 3) ls (.int (x 6 0) :: rest))) : W p l e R s m args below meth c H locs cells slots Q (F0 m pc ls (.ref (ad 2) :: rest)) := va_get (D := D) (ci := 5) (C := RX5) (T := TX5) (N := 5) (ref := "RankedEchoes$Told") hM.1.1 hM.1.2.1 hM.1.2.2.2.2 uw_X5 hM.1.2.2.2.1 hM.2.1 hP 2 rfl rfl 3 (by decide) (hM.1.2.2.2.2 _ hlk) (fun _ h9 => h9) rfl hdg kk
theorem qp_X_X5_size {ad : Nat → Nat} {x : IS} {j : JS} {index : Nat} {v : Int32} (hM : q_M p m c cc nL s args own D cI cJ A g) (hP : va_P D vwCl (q_WX cI cJ ad x j) H) (hD : va_D A (q_WX cI cJ ad x j)) (hS : va_S A s.heap H locs) (hlk : Cond.fieldLink own index "RankedEchoes$Told" "size" "I" ∈ lw_big) (hdg : decode cc pc = .ok (.putfield index, 3)) (kk : ∀ (x1 : IS) (H1 : Heap) (locs1 : List Loc), x1 = q_up x 6 (fun _ => v) → va_P D vwCl (q_WX cI cJ ad x1 j) H1 → va_D A (q_WX cI cJ ad x1 j) → va_S A s.heap H1 locs1 → W p l e R s m args below meth c H1 locs1 cells slots Q (F0 m (pc + 3) ls rest)) : W p l e R s m args below meth c H locs cells slots Q (F0 m pc ls (.int v :: .ref (ad 2) :: rest)) := va_put (D := D) (ci := 5) (v := .int v) (ty := .int) (C := RX5) (T := TX5) (N := 5) (ref := "RankedEchoes$Told") hM.1.1 hM.1.2.1 hM.1.2.2.2.2 uw_X5 tyX5 tyX5_ok nmX5 hM.1.2.2.2.1 hM.2.1 hP hD hS 2 rfl rfl 3 (by decide) (hM.1.2.2.2.2 _ hlk) (fun _ h9 => h9) rfl (by decide +kernel) rfl rfl (Nat.le_of_ble_eq_true rfl) hdg (fun H1 locs1 h1 h2 h3 => kk _ H1 locs1 rfl h1 h2 h3)
theorem qg_X_X5_mode {ad : Nat → Nat} {x : IS} {j : JS} {index : Nat} (hM : q_M p m c cc nL s args own D cI cJ A g) (hP : va_P D vwCl (q_WX cI cJ ad x j) H) (hlk : Cond.fieldLink own index "RankedEchoes$Told" "mode" "I" ∈ lw_big) (hdg : decode cc pc = .ok (.getfield index, 3)) (kk : W p l e R s m args below meth c H locs cells slots Q (F0 m (pc + 3) ls (.int (x 7 0) :: rest))) : W p l e R s m args below meth c H locs cells slots Q (F0 m pc ls (.ref (ad 2) :: rest)) := va_get (D := D) (ci := 5) (C := RX5) (T := TX5) (N := 5) (ref := "RankedEchoes$Told") hM.1.1 hM.1.2.1 hM.1.2.2.2.2 uw_X5 hM.1.2.2.2.1 hM.2.1 hP 2 rfl rfl 4 (by decide) (hM.1.2.2.2.2 _ hlk) (fun _ h9 => h9) rfl hdg kk
theorem qp_X_X5_mode {ad : Nat → Nat} {x : IS} {j : JS} {index : Nat} {v : Int32} (hM : q_M p m c cc nL s args own D cI cJ A g) (hP : va_P D vwCl (q_WX cI cJ ad x j) H) (hD : va_D A (q_WX cI cJ ad x j)) (hS : va_S A s.heap H locs) (hlk : Cond.fieldLink own index "RankedEchoes$Told" "mode" "I" ∈ lw_big) (hdg : decode cc pc = .ok (.putfield index, 3)) (kk : ∀ (x1 : IS) (H1 : Heap) (locs1 : List Loc), x1 = q_up x 7 (fun _ => v) → va_P D vwCl (q_WX cI cJ ad x1 j) H1 → va_D A (q_WX cI cJ ad x1 j) → va_S A s.heap H1 locs1 → W p l e R s m args below meth c H1 locs1 cells slots Q (F0 m (pc + 3) ls rest)) : W p l e R s m args below meth c H locs cells slots Q (F0 m pc ls (.int v :: .ref (ad 2) :: rest)) := va_put (D := D) (ci := 5) (v := .int v) (ty := .int) (C := RX5) (T := TX5) (N := 5) (ref := "RankedEchoes$Told") hM.1.1 hM.1.2.1 hM.1.2.2.2.2 uw_X5 tyX5 tyX5_ok nmX5 hM.1.2.2.2.1 hM.2.1 hP hD hS 2 rfl rfl 4 (by decide) (hM.1.2.2.2.2 _ hlk) (fun _ h9 => h9) rfl (by decide +kernel) rfl rfl (Nat.le_of_ble_eq_true rfl) hdg (fun H1 locs1 h1 h2 h3 => kk _ H1 locs1 rfl h1 h2 h3)
theorem qg_X_X3_powers {ad : Nat → Nat} {x : IS} {j : JS} {index : Nat} (hM : q_M p m c cc nL s args own D cI cJ A g) (hP : va_P D vwCl (q_WX cI cJ ad x j) H) (hlk : Cond.fieldLink own index "RankedEchoes$Row" "powers" "[I" ∈ lw_big) (hdg : decode cc pc = .ok (.getfield index, 3)) (kk : W p l e R s m args below meth c H locs cells slots Q (F0 m (pc + 3) ls (.ref (ad 12) :: rest))) : W p l e R s m args below meth c H locs cells slots Q (F0 m pc ls (.ref (ad 3) :: rest)) := va_get (D := D) (ci := 3) (C := RX3) (T := TX3) (N := 8) (ref := "RankedEchoes$Row") hM.1.1 hM.1.2.1 hM.1.2.2.2.2 uw_X3 hM.1.2.2.2.1 hM.2.1 hP 3 rfl rfl 0 (by decide) (hM.1.2.2.2.2 _ hlk) (fun _ h9 => h9) rfl hdg kk
theorem ql_X_X3_powers {ad : Nat → Nat} {x : IS} {j : JS} {i : Int32} (hM : q_M p m c cc nL s args own D cI cJ A g) (hP : va_P D vwCl (q_WX cI cJ ad x j) H) (hi : q_in i 48) (hdg : decode cc pc = .ok (.iaload, 1)) (kk : W p l e R s m args below meth c H locs cells slots Q (F0 m (pc + 1) ls (.int (x 8 i.toNatClampNeg) :: rest))) : W p l e R s m args below meth c H locs cells slots Q (F0 m pc ls (.int i :: .ref (ad 12) :: rest)) := va_iald hM.1.1 hM.1.2.1 hM.2.1 hP 12 0 rfl rfl (q_vp hi) hdg kk
theorem qs_X_X3_powers {ad : Nat → Nat} {x : IS} {j : JS} {i v : Int32} (hM : q_M p m c cc nL s args own D cI cJ A g) (hP : va_P D vwCl (q_WX cI cJ ad x j) H) (hD : va_D A (q_WX cI cJ ad x j)) (hS : va_S A s.heap H locs) (hi : q_in i 48) (hdg : decode cc pc = .ok (.iastore, 1)) (kk : ∀ (x1 : IS) (H1 : Heap) (locs1 : List Loc), x1 = q_up x 8 (upd (x 8) i.toNatClampNeg v) → va_P D vwCl (q_WX cI cJ ad x1 j) H1 → va_D A (q_WX cI cJ ad x1 j) → va_S A s.heap H1 locs1 → W p l e R s m args below meth c H1 locs1 cells slots Q (F0 m (pc + 1) ls rest)) : W p l e R s m args below meth c H locs cells slots Q (F0 m pc ls (.int v :: .int i :: .ref (ad 12) :: rest)) := va_iast hM.1.1 hM.1.2.1 hM.2.1 hP hD hS 12 0 rfl rfl (q_vp hi) hdg (fun H1 locs1 h1 h2 h3 => kk _ H1 locs1 rfl h1 h2 h3)
theorem qn_X_X3_powers {ad : Nat → Nat} {x : IS} {j : JS} (hM : q_M p m c cc nL s args own D cI cJ A g) (hP : va_P D vwCl (q_WX cI cJ ad x j) H) (hdg : decode cc pc = .ok (.arraylength, 1)) (kk : W p l e R s m args below meth c H locs cells slots Q (F0 m (pc + 1) ls (.int 48 :: rest))) : W p l e R s m args below meth c H locs cells slots Q (F0 m pc ls (.ref (ad 12) :: rest)) := va_alen hM.1.1 hM.1.2.1 hM.2.1 hP 12 0 rfl (ty := .int) rfl rfl hdg kk
theorem qg_X_X3_left {ad : Nat → Nat} {x : IS} {j : JS} {index : Nat} (hM : q_M p m c cc nL s args own D cI cJ A g) (hP : va_P D vwCl (q_WX cI cJ ad x j) H) (hlk : Cond.fieldLink own index "RankedEchoes$Row" "left" "[I" ∈ lw_big) (hdg : decode cc pc = .ok (.getfield index, 3)) (kk : W p l e R s m args below meth c H locs cells slots Q (F0 m (pc + 3) ls (.ref (ad 13) :: rest))) : W p l e R s m args below meth c H locs cells slots Q (F0 m pc ls (.ref (ad 3) :: rest)) := va_get (D := D) (ci := 3) (C := RX3) (T := TX3) (N := 8) (ref := "RankedEchoes$Row") hM.1.1 hM.1.2.1 hM.1.2.2.2.2 uw_X3 hM.1.2.2.2.1 hM.2.1 hP 3 rfl rfl 1 (by decide) (hM.1.2.2.2.2 _ hlk) (fun _ h9 => h9) rfl hdg kk
theorem ql_X_X3_left {ad : Nat → Nat} {x : IS} {j : JS} {i : Int32} (hM : q_M p m c cc nL s args own D cI cJ A g) (hP : va_P D vwCl (q_WX cI cJ ad x j) H) (hi : q_in i 48) (hdg : decode cc pc = .ok (.iaload, 1)) (kk : W p l e R s m args below meth c H locs cells slots Q (F0 m (pc + 1) ls (.int (x 9 i.toNatClampNeg) :: rest))) : W p l e R s m args below meth c H locs cells slots Q (F0 m pc ls (.int i :: .ref (ad 13) :: rest)) := va_iald hM.1.1 hM.1.2.1 hM.2.1 hP 13 0 rfl rfl (q_vp hi) hdg kk
theorem qs_X_X3_left {ad : Nat → Nat} {x : IS} {j : JS} {i v : Int32} (hM : q_M p m c cc nL s args own D cI cJ A g) (hP : va_P D vwCl (q_WX cI cJ ad x j) H) (hD : va_D A (q_WX cI cJ ad x j)) (hS : va_S A s.heap H locs) (hi : q_in i 48) (hdg : decode cc pc = .ok (.iastore, 1)) (kk : ∀ (x1 : IS) (H1 : Heap) (locs1 : List Loc), x1 = q_up x 9 (upd (x 9) i.toNatClampNeg v) → va_P D vwCl (q_WX cI cJ ad x1 j) H1 → va_D A (q_WX cI cJ ad x1 j) → va_S A s.heap H1 locs1 → W p l e R s m args below meth c H1 locs1 cells slots Q (F0 m (pc + 1) ls rest)) : W p l e R s m args below meth c H locs cells slots Q (F0 m pc ls (.int v :: .int i :: .ref (ad 13) :: rest)) := va_iast hM.1.1 hM.1.2.1 hM.2.1 hP hD hS 13 0 rfl rfl (q_vp hi) hdg (fun H1 locs1 h1 h2 h3 => kk _ H1 locs1 rfl h1 h2 h3)
theorem qn_X_X3_left {ad : Nat → Nat} {x : IS} {j : JS} (hM : q_M p m c cc nL s args own D cI cJ A g) (hP : va_P D vwCl (q_WX cI cJ ad x j) H) (hdg : decode cc pc = .ok (.arraylength, 1)) (kk : W p l e R s m args below meth c H locs cells slots Q (F0 m (pc + 1) ls (.int 48 :: rest))) : W p l e R s m args below meth c H locs cells slots Q (F0 m pc ls (.ref (ad 13) :: rest)) := va_alen hM.1.1 hM.1.2.1 hM.2.1 hP 13 0 rfl (ty := .int) rfl rfl hdg kk
theorem qg_X_X3_look {ad : Nat → Nat} {x : IS} {j : JS} {index : Nat} (hM : q_M p m c cc nL s args own D cI cJ A g) (hP : va_P D vwCl (q_WX cI cJ ad x j) H) (hlk : Cond.fieldLink own index "RankedEchoes$Row" "look" "[I" ∈ lw_big) (hdg : decode cc pc = .ok (.getfield index, 3)) (kk : W p l e R s m args below meth c H locs cells slots Q (F0 m (pc + 3) ls (.ref (ad 14) :: rest))) : W p l e R s m args below meth c H locs cells slots Q (F0 m pc ls (.ref (ad 3) :: rest)) := va_get (D := D) (ci := 3) (C := RX3) (T := TX3) (N := 8) (ref := "RankedEchoes$Row") hM.1.1 hM.1.2.1 hM.1.2.2.2.2 uw_X3 hM.1.2.2.2.1 hM.2.1 hP 3 rfl rfl 2 (by decide) (hM.1.2.2.2.2 _ hlk) (fun _ h9 => h9) rfl hdg kk
theorem ql_X_X3_look {ad : Nat → Nat} {x : IS} {j : JS} {i : Int32} (hM : q_M p m c cc nL s args own D cI cJ A g) (hP : va_P D vwCl (q_WX cI cJ ad x j) H) (hi : q_in i 5) (hdg : decode cc pc = .ok (.iaload, 1)) (kk : W p l e R s m args below meth c H locs cells slots Q (F0 m (pc + 1) ls (.int (x 10 i.toNatClampNeg) :: rest))) : W p l e R s m args below meth c H locs cells slots Q (F0 m pc ls (.int i :: .ref (ad 14) :: rest)) := va_iald hM.1.1 hM.1.2.1 hM.2.1 hP 14 0 rfl rfl (q_vp hi) hdg kk
theorem qs_X_X3_look {ad : Nat → Nat} {x : IS} {j : JS} {i v : Int32} (hM : q_M p m c cc nL s args own D cI cJ A g) (hP : va_P D vwCl (q_WX cI cJ ad x j) H) (hD : va_D A (q_WX cI cJ ad x j)) (hS : va_S A s.heap H locs) (hi : q_in i 5) (hdg : decode cc pc = .ok (.iastore, 1)) (kk : ∀ (x1 : IS) (H1 : Heap) (locs1 : List Loc), x1 = q_up x 10 (upd (x 10) i.toNatClampNeg v) → va_P D vwCl (q_WX cI cJ ad x1 j) H1 → va_D A (q_WX cI cJ ad x1 j) → va_S A s.heap H1 locs1 → W p l e R s m args below meth c H1 locs1 cells slots Q (F0 m (pc + 1) ls rest)) : W p l e R s m args below meth c H locs cells slots Q (F0 m pc ls (.int v :: .int i :: .ref (ad 14) :: rest)) := va_iast hM.1.1 hM.1.2.1 hM.2.1 hP hD hS 14 0 rfl rfl (q_vp hi) hdg (fun H1 locs1 h1 h2 h3 => kk _ H1 locs1 rfl h1 h2 h3)
theorem qn_X_X3_look {ad : Nat → Nat} {x : IS} {j : JS} (hM : q_M p m c cc nL s args own D cI cJ A g) (hP : va_P D vwCl (q_WX cI cJ ad x j) H) (hdg : decode cc pc = .ok (.arraylength, 1)) (kk : W p l e R s m args below meth c H locs cells slots Q (F0 m (pc + 1) ls (.int 5 :: rest))) : W p l e R s m args below meth c H locs cells slots Q (F0 m pc ls (.ref (ad 14) :: rest)) := va_alen hM.1.1 hM.1.2.1 hM.2.1 hP 14 0 rfl (ty := .int) rfl rfl hdg kk
theorem qg_X_X3_window {ad : Nat → Nat} {x : IS} {j : JS} {index : Nat} (hM : q_M p m c cc nL s args own D cI cJ A g) (hP : va_P D vwCl (q_WX cI cJ ad x j) H) (hlk : Cond.fieldLink own index "RankedEchoes$Row" "window" "[I" ∈ lw_big) (hdg : decode cc pc = .ok (.getfield index, 3)) (kk : W p l e R s m args below meth c H locs cells slots Q (F0 m (pc + 3) ls (.ref (ad 15) :: rest))) : W p l e R s m args below meth c H locs cells slots Q (F0 m pc ls (.ref (ad 3) :: rest)) := va_get (D := D) (ci := 3) (C := RX3) (T := TX3) (N := 8) (ref := "RankedEchoes$Row") hM.1.1 hM.1.2.1 hM.1.2.2.2.2 uw_X3 hM.1.2.2.2.1 hM.2.1 hP 3 rfl rfl 3 (by decide) (hM.1.2.2.2.2 _ hlk) (fun _ h9 => h9) rfl hdg kk
theorem ql_X_X3_window {ad : Nat → Nat} {x : IS} {j : JS} {i : Int32} (hM : q_M p m c cc nL s args own D cI cJ A g) (hP : va_P D vwCl (q_WX cI cJ ad x j) H) (hi : q_in i 12) (hdg : decode cc pc = .ok (.iaload, 1)) (kk : W p l e R s m args below meth c H locs cells slots Q (F0 m (pc + 1) ls (.int (x 11 i.toNatClampNeg) :: rest))) : W p l e R s m args below meth c H locs cells slots Q (F0 m pc ls (.int i :: .ref (ad 15) :: rest)) := va_iald hM.1.1 hM.1.2.1 hM.2.1 hP 15 0 rfl rfl (q_vp hi) hdg kk
theorem qs_X_X3_window {ad : Nat → Nat} {x : IS} {j : JS} {i v : Int32} (hM : q_M p m c cc nL s args own D cI cJ A g) (hP : va_P D vwCl (q_WX cI cJ ad x j) H) (hD : va_D A (q_WX cI cJ ad x j)) (hS : va_S A s.heap H locs) (hi : q_in i 12) (hdg : decode cc pc = .ok (.iastore, 1)) (kk : ∀ (x1 : IS) (H1 : Heap) (locs1 : List Loc), x1 = q_up x 11 (upd (x 11) i.toNatClampNeg v) → va_P D vwCl (q_WX cI cJ ad x1 j) H1 → va_D A (q_WX cI cJ ad x1 j) → va_S A s.heap H1 locs1 → W p l e R s m args below meth c H1 locs1 cells slots Q (F0 m (pc + 1) ls rest)) : W p l e R s m args below meth c H locs cells slots Q (F0 m pc ls (.int v :: .int i :: .ref (ad 15) :: rest)) := va_iast hM.1.1 hM.1.2.1 hM.2.1 hP hD hS 15 0 rfl rfl (q_vp hi) hdg (fun H1 locs1 h1 h2 h3 => kk _ H1 locs1 rfl h1 h2 h3)
theorem qn_X_X3_window {ad : Nat → Nat} {x : IS} {j : JS} (hM : q_M p m c cc nL s args own D cI cJ A g) (hP : va_P D vwCl (q_WX cI cJ ad x j) H) (hdg : decode cc pc = .ok (.arraylength, 1)) (kk : W p l e R s m args below meth c H locs cells slots Q (F0 m (pc + 1) ls (.int 12 :: rest))) : W p l e R s m args below meth c H locs cells slots Q (F0 m pc ls (.ref (ad 15) :: rest)) := va_alen hM.1.1 hM.1.2.1 hM.2.1 hP 15 0 rfl (ty := .int) rfl rfl hdg kk
theorem qg_X_X3_inWindow {ad : Nat → Nat} {x : IS} {j : JS} {index : Nat} (hM : q_M p m c cc nL s args own D cI cJ A g) (hP : va_P D vwCl (q_WX cI cJ ad x j) H) (hlk : Cond.fieldLink own index "RankedEchoes$Row" "inWindow" "I" ∈ lw_big) (hdg : decode cc pc = .ok (.getfield index, 3)) (kk : W p l e R s m args below meth c H locs cells slots Q (F0 m (pc + 3) ls (.int (x 12 0) :: rest))) : W p l e R s m args below meth c H locs cells slots Q (F0 m pc ls (.ref (ad 3) :: rest)) := va_get (D := D) (ci := 3) (C := RX3) (T := TX3) (N := 8) (ref := "RankedEchoes$Row") hM.1.1 hM.1.2.1 hM.1.2.2.2.2 uw_X3 hM.1.2.2.2.1 hM.2.1 hP 3 rfl rfl 4 (by decide) (hM.1.2.2.2.2 _ hlk) (fun _ h9 => h9) rfl hdg kk
theorem qp_X_X3_inWindow {ad : Nat → Nat} {x : IS} {j : JS} {index : Nat} {v : Int32} (hM : q_M p m c cc nL s args own D cI cJ A g) (hP : va_P D vwCl (q_WX cI cJ ad x j) H) (hD : va_D A (q_WX cI cJ ad x j)) (hS : va_S A s.heap H locs) (hlk : Cond.fieldLink own index "RankedEchoes$Row" "inWindow" "I" ∈ lw_big) (hdg : decode cc pc = .ok (.putfield index, 3)) (kk : ∀ (x1 : IS) (H1 : Heap) (locs1 : List Loc), x1 = q_up x 12 (fun _ => v) → va_P D vwCl (q_WX cI cJ ad x1 j) H1 → va_D A (q_WX cI cJ ad x1 j) → va_S A s.heap H1 locs1 → W p l e R s m args below meth c H1 locs1 cells slots Q (F0 m (pc + 3) ls rest)) : W p l e R s m args below meth c H locs cells slots Q (F0 m pc ls (.int v :: .ref (ad 3) :: rest)) := va_put (D := D) (ci := 3) (v := .int v) (ty := .int) (C := RX3) (T := TX3) (N := 8) (ref := "RankedEchoes$Row") hM.1.1 hM.1.2.1 hM.1.2.2.2.2 uw_X3 tyX3 tyX3_ok nmX3 hM.1.2.2.2.1 hM.2.1 hP hD hS 3 rfl rfl 4 (by decide) (hM.1.2.2.2.2 _ hlk) (fun _ h9 => h9) rfl (by decide +kernel) rfl rfl (Nat.le_of_ble_eq_true rfl) hdg (fun H1 locs1 h1 h2 h3 => kk _ H1 locs1 rfl h1 h2 h3)
theorem qg_X_X3_size {ad : Nat → Nat} {x : IS} {j : JS} {index : Nat} (hM : q_M p m c cc nL s args own D cI cJ A g) (hP : va_P D vwCl (q_WX cI cJ ad x j) H) (hlk : Cond.fieldLink own index "RankedEchoes$Row" "size" "I" ∈ lw_big) (hdg : decode cc pc = .ok (.getfield index, 3)) (kk : W p l e R s m args below meth c H locs cells slots Q (F0 m (pc + 3) ls (.int (x 13 0) :: rest))) : W p l e R s m args below meth c H locs cells slots Q (F0 m pc ls (.ref (ad 3) :: rest)) := va_get (D := D) (ci := 3) (C := RX3) (T := TX3) (N := 8) (ref := "RankedEchoes$Row") hM.1.1 hM.1.2.1 hM.1.2.2.2.2 uw_X3 hM.1.2.2.2.1 hM.2.1 hP 3 rfl rfl 5 (by decide) (hM.1.2.2.2.2 _ hlk) (fun _ h9 => h9) rfl hdg kk
theorem qp_X_X3_size {ad : Nat → Nat} {x : IS} {j : JS} {index : Nat} {v : Int32} (hM : q_M p m c cc nL s args own D cI cJ A g) (hP : va_P D vwCl (q_WX cI cJ ad x j) H) (hD : va_D A (q_WX cI cJ ad x j)) (hS : va_S A s.heap H locs) (hlk : Cond.fieldLink own index "RankedEchoes$Row" "size" "I" ∈ lw_big) (hdg : decode cc pc = .ok (.putfield index, 3)) (kk : ∀ (x1 : IS) (H1 : Heap) (locs1 : List Loc), x1 = q_up x 13 (fun _ => v) → va_P D vwCl (q_WX cI cJ ad x1 j) H1 → va_D A (q_WX cI cJ ad x1 j) → va_S A s.heap H1 locs1 → W p l e R s m args below meth c H1 locs1 cells slots Q (F0 m (pc + 3) ls rest)) : W p l e R s m args below meth c H locs cells slots Q (F0 m pc ls (.int v :: .ref (ad 3) :: rest)) := va_put (D := D) (ci := 3) (v := .int v) (ty := .int) (C := RX3) (T := TX3) (N := 8) (ref := "RankedEchoes$Row") hM.1.1 hM.1.2.1 hM.1.2.2.2.2 uw_X3 tyX3 tyX3_ok nmX3 hM.1.2.2.2.1 hM.2.1 hP hD hS 3 rfl rfl 5 (by decide) (hM.1.2.2.2.2 _ hlk) (fun _ h9 => h9) rfl (by decide +kernel) rfl rfl (Nat.le_of_ble_eq_true rfl) hdg (fun H1 locs1 h1 h2 h3 => kk _ H1 locs1 rfl h1 h2 h3)
theorem qg_X_X3_mode {ad : Nat → Nat} {x : IS} {j : JS} {index : Nat} (hM : q_M p m c cc nL s args own D cI cJ A g) (hP : va_P D vwCl (q_WX cI cJ ad x j) H) (hlk : Cond.fieldLink own index "RankedEchoes$Row" "mode" "I" ∈ lw_big) (hdg : decode cc pc = .ok (.getfield index, 3)) (kk : W p l e R s m args below meth c H locs cells slots Q (F0 m (pc + 3) ls (.int (x 14 0) :: rest))) : W p l e R s m args below meth c H locs cells slots Q (F0 m pc ls (.ref (ad 3) :: rest)) := va_get (D := D) (ci := 3) (C := RX3) (T := TX3) (N := 8) (ref := "RankedEchoes$Row") hM.1.1 hM.1.2.1 hM.1.2.2.2.2 uw_X3 hM.1.2.2.2.1 hM.2.1 hP 3 rfl rfl 6 (by decide) (hM.1.2.2.2.2 _ hlk) (fun _ h9 => h9) rfl hdg kk
theorem qp_X_X3_mode {ad : Nat → Nat} {x : IS} {j : JS} {index : Nat} {v : Int32} (hM : q_M p m c cc nL s args own D cI cJ A g) (hP : va_P D vwCl (q_WX cI cJ ad x j) H) (hD : va_D A (q_WX cI cJ ad x j)) (hS : va_S A s.heap H locs) (hlk : Cond.fieldLink own index "RankedEchoes$Row" "mode" "I" ∈ lw_big) (hdg : decode cc pc = .ok (.putfield index, 3)) (kk : ∀ (x1 : IS) (H1 : Heap) (locs1 : List Loc), x1 = q_up x 14 (fun _ => v) → va_P D vwCl (q_WX cI cJ ad x1 j) H1 → va_D A (q_WX cI cJ ad x1 j) → va_S A s.heap H1 locs1 → W p l e R s m args below meth c H1 locs1 cells slots Q (F0 m (pc + 3) ls rest)) : W p l e R s m args below meth c H locs cells slots Q (F0 m pc ls (.int v :: .ref (ad 3) :: rest)) := va_put (D := D) (ci := 3) (v := .int v) (ty := .int) (C := RX3) (T := TX3) (N := 8) (ref := "RankedEchoes$Row") hM.1.1 hM.1.2.1 hM.1.2.2.2.2 uw_X3 tyX3 tyX3_ok nmX3 hM.1.2.2.2.1 hM.2.1 hP hD hS 3 rfl rfl 6 (by decide) (hM.1.2.2.2.2 _ hlk) (fun _ h9 => h9) rfl (by decide +kernel) rfl rfl (Nat.le_of_ble_eq_true rfl) hdg (fun H1 locs1 h1 h2 h3 => kk _ H1 locs1 rfl h1 h2 h3)
theorem qg_X_X3_changed {ad : Nat → Nat} {x : IS} {j : JS} {index : Nat} (hM : q_M p m c cc nL s args own D cI cJ A g) (hP : va_P D vwCl (q_WX cI cJ ad x j) H) (hlk : Cond.fieldLink own index "RankedEchoes$Row" "changed" "Z" ∈ lw_big) (hdg : decode cc pc = .ok (.getfield index, 3)) (kk : W p l e R s m args below meth c H locs cells slots Q (F0 m (pc + 3) ls (.int (x 15 0) :: rest))) : W p l e R s m args below meth c H locs cells slots Q (F0 m pc ls (.ref (ad 3) :: rest)) := va_get (D := D) (ci := 3) (C := RX3) (T := TX3) (N := 8) (ref := "RankedEchoes$Row") hM.1.1 hM.1.2.1 hM.1.2.2.2.2 uw_X3 hM.1.2.2.2.1 hM.2.1 hP 3 rfl rfl 7 (by decide) (hM.1.2.2.2.2 _ hlk) (fun _ h9 => h9) rfl hdg kk
theorem qp_X_X3_changed {ad : Nat → Nat} {x : IS} {j : JS} {index : Nat} {v : Int32} (hM : q_M p m c cc nL s args own D cI cJ A g) (hP : va_P D vwCl (q_WX cI cJ ad x j) H) (hD : va_D A (q_WX cI cJ ad x j)) (hS : va_S A s.heap H locs) (hn : narrow .boolean (.int v) = .int v) (hft : fits .boolean (.int v) = true) (hlk : Cond.fieldLink own index "RankedEchoes$Row" "changed" "Z" ∈ lw_big) (hdg : decode cc pc = .ok (.putfield index, 3)) (kk : ∀ (x1 : IS) (H1 : Heap) (locs1 : List Loc), x1 = q_up x 15 (fun _ => v) → va_P D vwCl (q_WX cI cJ ad x1 j) H1 → va_D A (q_WX cI cJ ad x1 j) → va_S A s.heap H1 locs1 → W p l e R s m args below meth c H1 locs1 cells slots Q (F0 m (pc + 3) ls rest)) : W p l e R s m args below meth c H locs cells slots Q (F0 m pc ls (.int v :: .ref (ad 3) :: rest)) := va_put (D := D) (ci := 3) (v := .int v) (ty := .boolean) (C := RX3) (T := TX3) (N := 8) (ref := "RankedEchoes$Row") hM.1.1 hM.1.2.1 hM.1.2.2.2.2 uw_X3 tyX3 tyX3_ok nmX3 hM.1.2.2.2.1 hM.2.1 hP hD hS 3 rfl rfl 7 (by decide) (hM.1.2.2.2.2 _ hlk) (fun _ h9 => h9) rfl (by decide +kernel) hn hft (Nat.le_of_ble_eq_true rfl) hdg (fun H1 locs1 h1 h2 h3 => kk _ H1 locs1 rfl h1 h2 h3)
theorem qg_X_X0_floors {ad : Nat → Nat} {x : IS} {j : JS} {index : Nat} (hM : q_M p m c cc nL s args own D cI cJ A g) (hP : va_P D vwCl (q_WX cI cJ ad x j) H) (hlk : Cond.fieldLink own index "RankedEchoes$Alarms" "floors" "[I" ∈ lw_big) (hdg : decode cc pc = .ok (.getfield index, 3)) (kk : W p l e R s m args below meth c H locs cells slots Q (F0 m (pc + 3) ls (.ref (ad 16) :: rest))) : W p l e R s m args below meth c H locs cells slots Q (F0 m pc ls (.ref (ad 4) :: rest)) := va_get (D := D) (ci := 0) (C := RX0) (T := TX0) (N := 7) (ref := "RankedEchoes$Alarms") hM.1.1 hM.1.2.1 hM.1.2.2.2.2 uw_X0 hM.1.2.2.2.1 hM.2.1 hP 4 rfl rfl 0 (by decide) (hM.1.2.2.2.2 _ hlk) (fun _ h9 => h9) rfl hdg kk
theorem ql_X_X0_floors {ad : Nat → Nat} {x : IS} {j : JS} {i : Int32} (hM : q_M p m c cc nL s args own D cI cJ A g) (hP : va_P D vwCl (q_WX cI cJ ad x j) H) (hi : q_in i 48) (hdg : decode cc pc = .ok (.iaload, 1)) (kk : W p l e R s m args below meth c H locs cells slots Q (F0 m (pc + 1) ls (.int (x 16 i.toNatClampNeg) :: rest))) : W p l e R s m args below meth c H locs cells slots Q (F0 m pc ls (.int i :: .ref (ad 16) :: rest)) := va_iald hM.1.1 hM.1.2.1 hM.2.1 hP 16 0 rfl rfl (q_vp hi) hdg kk
theorem qs_X_X0_floors {ad : Nat → Nat} {x : IS} {j : JS} {i v : Int32} (hM : q_M p m c cc nL s args own D cI cJ A g) (hP : va_P D vwCl (q_WX cI cJ ad x j) H) (hD : va_D A (q_WX cI cJ ad x j)) (hS : va_S A s.heap H locs) (hi : q_in i 48) (hdg : decode cc pc = .ok (.iastore, 1)) (kk : ∀ (x1 : IS) (H1 : Heap) (locs1 : List Loc), x1 = q_up x 16 (upd (x 16) i.toNatClampNeg v) → va_P D vwCl (q_WX cI cJ ad x1 j) H1 → va_D A (q_WX cI cJ ad x1 j) → va_S A s.heap H1 locs1 → W p l e R s m args below meth c H1 locs1 cells slots Q (F0 m (pc + 1) ls rest)) : W p l e R s m args below meth c H locs cells slots Q (F0 m pc ls (.int v :: .int i :: .ref (ad 16) :: rest)) := va_iast hM.1.1 hM.1.2.1 hM.2.1 hP hD hS 16 0 rfl rfl (q_vp hi) hdg (fun H1 locs1 h1 h2 h3 => kk _ H1 locs1 rfl h1 h2 h3)
theorem qn_X_X0_floors {ad : Nat → Nat} {x : IS} {j : JS} (hM : q_M p m c cc nL s args own D cI cJ A g) (hP : va_P D vwCl (q_WX cI cJ ad x j) H) (hdg : decode cc pc = .ok (.arraylength, 1)) (kk : W p l e R s m args below meth c H locs cells slots Q (F0 m (pc + 1) ls (.int 48 :: rest))) : W p l e R s m args below meth c H locs cells slots Q (F0 m pc ls (.ref (ad 16) :: rest)) := va_alen hM.1.1 hM.1.2.1 hM.2.1 hP 16 0 rfl (ty := .int) rfl rfl hdg kk
theorem qg_X_X0_bunchOf {ad : Nat → Nat} {x : IS} {j : JS} {index : Nat} (hM : q_M p m c cc nL s args own D cI cJ A g) (hP : va_P D vwCl (q_WX cI cJ ad x j) H) (hlk : Cond.fieldLink own index "RankedEchoes$Alarms" "bunchOf" "[I" ∈ lw_big) (hdg : decode cc pc = .ok (.getfield index, 3)) (kk : W p l e R s m args below meth c H locs cells slots Q (F0 m (pc + 3) ls (.ref (ad 17) :: rest))) : W p l e R s m args below meth c H locs cells slots Q (F0 m pc ls (.ref (ad 4) :: rest)) := va_get (D := D) (ci := 0) (C := RX0) (T := TX0) (N := 7) (ref := "RankedEchoes$Alarms") hM.1.1 hM.1.2.1 hM.1.2.2.2.2 uw_X0 hM.1.2.2.2.1 hM.2.1 hP 4 rfl rfl 1 (by decide) (hM.1.2.2.2.2 _ hlk) (fun _ h9 => h9) rfl hdg kk
theorem ql_X_X0_bunchOf {ad : Nat → Nat} {x : IS} {j : JS} {i : Int32} (hM : q_M p m c cc nL s args own D cI cJ A g) (hP : va_P D vwCl (q_WX cI cJ ad x j) H) (hi : q_in i 48) (hdg : decode cc pc = .ok (.iaload, 1)) (kk : W p l e R s m args below meth c H locs cells slots Q (F0 m (pc + 1) ls (.int (x 17 i.toNatClampNeg) :: rest))) : W p l e R s m args below meth c H locs cells slots Q (F0 m pc ls (.int i :: .ref (ad 17) :: rest)) := va_iald hM.1.1 hM.1.2.1 hM.2.1 hP 17 0 rfl rfl (q_vp hi) hdg kk
theorem qs_X_X0_bunchOf {ad : Nat → Nat} {x : IS} {j : JS} {i v : Int32} (hM : q_M p m c cc nL s args own D cI cJ A g) (hP : va_P D vwCl (q_WX cI cJ ad x j) H) (hD : va_D A (q_WX cI cJ ad x j)) (hS : va_S A s.heap H locs) (hi : q_in i 48) (hdg : decode cc pc = .ok (.iastore, 1)) (kk : ∀ (x1 : IS) (H1 : Heap) (locs1 : List Loc), x1 = q_up x 17 (upd (x 17) i.toNatClampNeg v) → va_P D vwCl (q_WX cI cJ ad x1 j) H1 → va_D A (q_WX cI cJ ad x1 j) → va_S A s.heap H1 locs1 → W p l e R s m args below meth c H1 locs1 cells slots Q (F0 m (pc + 1) ls rest)) : W p l e R s m args below meth c H locs cells slots Q (F0 m pc ls (.int v :: .int i :: .ref (ad 17) :: rest)) := va_iast hM.1.1 hM.1.2.1 hM.2.1 hP hD hS 17 0 rfl rfl (q_vp hi) hdg (fun H1 locs1 h1 h2 h3 => kk _ H1 locs1 rfl h1 h2 h3)
theorem qn_X_X0_bunchOf {ad : Nat → Nat} {x : IS} {j : JS} (hM : q_M p m c cc nL s args own D cI cJ A g) (hP : va_P D vwCl (q_WX cI cJ ad x j) H) (hdg : decode cc pc = .ok (.arraylength, 1)) (kk : W p l e R s m args below meth c H locs cells slots Q (F0 m (pc + 1) ls (.int 48 :: rest))) : W p l e R s m args below meth c H locs cells slots Q (F0 m pc ls (.ref (ad 17) :: rest)) := va_alen hM.1.1 hM.1.2.1 hM.2.1 hP 17 0 rfl (ty := .int) rfl rfl hdg kk
theorem qg_X_X0_firsts {ad : Nat → Nat} {x : IS} {j : JS} {index : Nat} (hM : q_M p m c cc nL s args own D cI cJ A g) (hP : va_P D vwCl (q_WX cI cJ ad x j) H) (hlk : Cond.fieldLink own index "RankedEchoes$Alarms" "firsts" "[I" ∈ lw_big) (hdg : decode cc pc = .ok (.getfield index, 3)) (kk : W p l e R s m args below meth c H locs cells slots Q (F0 m (pc + 3) ls (.ref (ad 18) :: rest))) : W p l e R s m args below meth c H locs cells slots Q (F0 m pc ls (.ref (ad 4) :: rest)) := va_get (D := D) (ci := 0) (C := RX0) (T := TX0) (N := 7) (ref := "RankedEchoes$Alarms") hM.1.1 hM.1.2.1 hM.1.2.2.2.2 uw_X0 hM.1.2.2.2.1 hM.2.1 hP 4 rfl rfl 2 (by decide) (hM.1.2.2.2.2 _ hlk) (fun _ h9 => h9) rfl hdg kk
theorem ql_X_X0_firsts {ad : Nat → Nat} {x : IS} {j : JS} {i : Int32} (hM : q_M p m c cc nL s args own D cI cJ A g) (hP : va_P D vwCl (q_WX cI cJ ad x j) H) (hi : q_in i 48) (hdg : decode cc pc = .ok (.iaload, 1)) (kk : W p l e R s m args below meth c H locs cells slots Q (F0 m (pc + 1) ls (.int (x 18 i.toNatClampNeg) :: rest))) : W p l e R s m args below meth c H locs cells slots Q (F0 m pc ls (.int i :: .ref (ad 18) :: rest)) := va_iald hM.1.1 hM.1.2.1 hM.2.1 hP 18 0 rfl rfl (q_vp hi) hdg kk
theorem qs_X_X0_firsts {ad : Nat → Nat} {x : IS} {j : JS} {i v : Int32} (hM : q_M p m c cc nL s args own D cI cJ A g) (hP : va_P D vwCl (q_WX cI cJ ad x j) H) (hD : va_D A (q_WX cI cJ ad x j)) (hS : va_S A s.heap H locs) (hi : q_in i 48) (hdg : decode cc pc = .ok (.iastore, 1)) (kk : ∀ (x1 : IS) (H1 : Heap) (locs1 : List Loc), x1 = q_up x 18 (upd (x 18) i.toNatClampNeg v) → va_P D vwCl (q_WX cI cJ ad x1 j) H1 → va_D A (q_WX cI cJ ad x1 j) → va_S A s.heap H1 locs1 → W p l e R s m args below meth c H1 locs1 cells slots Q (F0 m (pc + 1) ls rest)) : W p l e R s m args below meth c H locs cells slots Q (F0 m pc ls (.int v :: .int i :: .ref (ad 18) :: rest)) := va_iast hM.1.1 hM.1.2.1 hM.2.1 hP hD hS 18 0 rfl rfl (q_vp hi) hdg (fun H1 locs1 h1 h2 h3 => kk _ H1 locs1 rfl h1 h2 h3)
theorem qn_X_X0_firsts {ad : Nat → Nat} {x : IS} {j : JS} (hM : q_M p m c cc nL s args own D cI cJ A g) (hP : va_P D vwCl (q_WX cI cJ ad x j) H) (hdg : decode cc pc = .ok (.arraylength, 1)) (kk : W p l e R s m args below meth c H locs cells slots Q (F0 m (pc + 1) ls (.int 48 :: rest))) : W p l e R s m args below meth c H locs cells slots Q (F0 m pc ls (.ref (ad 18) :: rest)) := va_alen hM.1.1 hM.1.2.1 hM.2.1 hP 18 0 rfl (ty := .int) rfl rfl hdg kk
theorem qg_X_X0_lasts {ad : Nat → Nat} {x : IS} {j : JS} {index : Nat} (hM : q_M p m c cc nL s args own D cI cJ A g) (hP : va_P D vwCl (q_WX cI cJ ad x j) H) (hlk : Cond.fieldLink own index "RankedEchoes$Alarms" "lasts" "[I" ∈ lw_big) (hdg : decode cc pc = .ok (.getfield index, 3)) (kk : W p l e R s m args below meth c H locs cells slots Q (F0 m (pc + 3) ls (.ref (ad 19) :: rest))) : W p l e R s m args below meth c H locs cells slots Q (F0 m pc ls (.ref (ad 4) :: rest)) := va_get (D := D) (ci := 0) (C := RX0) (T := TX0) (N := 7) (ref := "RankedEchoes$Alarms") hM.1.1 hM.1.2.1 hM.1.2.2.2.2 uw_X0 hM.1.2.2.2.1 hM.2.1 hP 4 rfl rfl 3 (by decide) (hM.1.2.2.2.2 _ hlk) (fun _ h9 => h9) rfl hdg kk
theorem ql_X_X0_lasts {ad : Nat → Nat} {x : IS} {j : JS} {i : Int32} (hM : q_M p m c cc nL s args own D cI cJ A g) (hP : va_P D vwCl (q_WX cI cJ ad x j) H) (hi : q_in i 48) (hdg : decode cc pc = .ok (.iaload, 1)) (kk : W p l e R s m args below meth c H locs cells slots Q (F0 m (pc + 1) ls (.int (x 19 i.toNatClampNeg) :: rest))) : W p l e R s m args below meth c H locs cells slots Q (F0 m pc ls (.int i :: .ref (ad 19) :: rest)) := va_iald hM.1.1 hM.1.2.1 hM.2.1 hP 19 0 rfl rfl (q_vp hi) hdg kk
theorem qs_X_X0_lasts {ad : Nat → Nat} {x : IS} {j : JS} {i v : Int32} (hM : q_M p m c cc nL s args own D cI cJ A g) (hP : va_P D vwCl (q_WX cI cJ ad x j) H) (hD : va_D A (q_WX cI cJ ad x j)) (hS : va_S A s.heap H locs) (hi : q_in i 48) (hdg : decode cc pc = .ok (.iastore, 1)) (kk : ∀ (x1 : IS) (H1 : Heap) (locs1 : List Loc), x1 = q_up x 19 (upd (x 19) i.toNatClampNeg v) → va_P D vwCl (q_WX cI cJ ad x1 j) H1 → va_D A (q_WX cI cJ ad x1 j) → va_S A s.heap H1 locs1 → W p l e R s m args below meth c H1 locs1 cells slots Q (F0 m (pc + 1) ls rest)) : W p l e R s m args below meth c H locs cells slots Q (F0 m pc ls (.int v :: .int i :: .ref (ad 19) :: rest)) := va_iast hM.1.1 hM.1.2.1 hM.2.1 hP hD hS 19 0 rfl rfl (q_vp hi) hdg (fun H1 locs1 h1 h2 h3 => kk _ H1 locs1 rfl h1 h2 h3)
theorem qn_X_X0_lasts {ad : Nat → Nat} {x : IS} {j : JS} (hM : q_M p m c cc nL s args own D cI cJ A g) (hP : va_P D vwCl (q_WX cI cJ ad x j) H) (hdg : decode cc pc = .ok (.arraylength, 1)) (kk : W p l e R s m args below meth c H locs cells slots Q (F0 m (pc + 1) ls (.int 48 :: rest))) : W p l e R s m args below meth c H locs cells slots Q (F0 m pc ls (.ref (ad 19) :: rest)) := va_alen hM.1.1 hM.1.2.1 hM.2.1 hP 19 0 rfl (ty := .int) rfl rfl hdg kk
theorem qg_X_X0_peaks {ad : Nat → Nat} {x : IS} {j : JS} {index : Nat} (hM : q_M p m c cc nL s args own D cI cJ A g) (hP : va_P D vwCl (q_WX cI cJ ad x j) H) (hlk : Cond.fieldLink own index "RankedEchoes$Alarms" "peaks" "[I" ∈ lw_big) (hdg : decode cc pc = .ok (.getfield index, 3)) (kk : W p l e R s m args below meth c H locs cells slots Q (F0 m (pc + 3) ls (.ref (ad 20) :: rest))) : W p l e R s m args below meth c H locs cells slots Q (F0 m pc ls (.ref (ad 4) :: rest)) := va_get (D := D) (ci := 0) (C := RX0) (T := TX0) (N := 7) (ref := "RankedEchoes$Alarms") hM.1.1 hM.1.2.1 hM.1.2.2.2.2 uw_X0 hM.1.2.2.2.1 hM.2.1 hP 4 rfl rfl 4 (by decide) (hM.1.2.2.2.2 _ hlk) (fun _ h9 => h9) rfl hdg kk
theorem ql_X_X0_peaks {ad : Nat → Nat} {x : IS} {j : JS} {i : Int32} (hM : q_M p m c cc nL s args own D cI cJ A g) (hP : va_P D vwCl (q_WX cI cJ ad x j) H) (hi : q_in i 48) (hdg : decode cc pc = .ok (.iaload, 1)) (kk : W p l e R s m args below meth c H locs cells slots Q (F0 m (pc + 1) ls (.int (x 20 i.toNatClampNeg) :: rest))) : W p l e R s m args below meth c H locs cells slots Q (F0 m pc ls (.int i :: .ref (ad 20) :: rest)) := va_iald hM.1.1 hM.1.2.1 hM.2.1 hP 20 0 rfl rfl (q_vp hi) hdg kk
theorem qs_X_X0_peaks {ad : Nat → Nat} {x : IS} {j : JS} {i v : Int32} (hM : q_M p m c cc nL s args own D cI cJ A g) (hP : va_P D vwCl (q_WX cI cJ ad x j) H) (hD : va_D A (q_WX cI cJ ad x j)) (hS : va_S A s.heap H locs) (hi : q_in i 48) (hdg : decode cc pc = .ok (.iastore, 1)) (kk : ∀ (x1 : IS) (H1 : Heap) (locs1 : List Loc), x1 = q_up x 20 (upd (x 20) i.toNatClampNeg v) → va_P D vwCl (q_WX cI cJ ad x1 j) H1 → va_D A (q_WX cI cJ ad x1 j) → va_S A s.heap H1 locs1 → W p l e R s m args below meth c H1 locs1 cells slots Q (F0 m (pc + 1) ls rest)) : W p l e R s m args below meth c H locs cells slots Q (F0 m pc ls (.int v :: .int i :: .ref (ad 20) :: rest)) := va_iast hM.1.1 hM.1.2.1 hM.2.1 hP hD hS 20 0 rfl rfl (q_vp hi) hdg (fun H1 locs1 h1 h2 h3 => kk _ H1 locs1 rfl h1 h2 h3)
theorem qn_X_X0_peaks {ad : Nat → Nat} {x : IS} {j : JS} (hM : q_M p m c cc nL s args own D cI cJ A g) (hP : va_P D vwCl (q_WX cI cJ ad x j) H) (hdg : decode cc pc = .ok (.arraylength, 1)) (kk : W p l e R s m args below meth c H locs cells slots Q (F0 m (pc + 1) ls (.int 48 :: rest))) : W p l e R s m args below meth c H locs cells slots Q (F0 m pc ls (.ref (ad 20) :: rest)) := va_alen hM.1.1 hM.1.2.1 hM.2.1 hP 20 0 rfl (ty := .int) rfl rfl hdg kk
theorem qg_X_X0_howMany {ad : Nat → Nat} {x : IS} {j : JS} {index : Nat} (hM : q_M p m c cc nL s args own D cI cJ A g) (hP : va_P D vwCl (q_WX cI cJ ad x j) H) (hlk : Cond.fieldLink own index "RankedEchoes$Alarms" "howMany" "I" ∈ lw_big) (hdg : decode cc pc = .ok (.getfield index, 3)) (kk : W p l e R s m args below meth c H locs cells slots Q (F0 m (pc + 3) ls (.int (x 21 0) :: rest))) : W p l e R s m args below meth c H locs cells slots Q (F0 m pc ls (.ref (ad 4) :: rest)) := va_get (D := D) (ci := 0) (C := RX0) (T := TX0) (N := 7) (ref := "RankedEchoes$Alarms") hM.1.1 hM.1.2.1 hM.1.2.2.2.2 uw_X0 hM.1.2.2.2.1 hM.2.1 hP 4 rfl rfl 5 (by decide) (hM.1.2.2.2.2 _ hlk) (fun _ h9 => h9) rfl hdg kk
theorem qp_X_X0_howMany {ad : Nat → Nat} {x : IS} {j : JS} {index : Nat} {v : Int32} (hM : q_M p m c cc nL s args own D cI cJ A g) (hP : va_P D vwCl (q_WX cI cJ ad x j) H) (hD : va_D A (q_WX cI cJ ad x j)) (hS : va_S A s.heap H locs) (hlk : Cond.fieldLink own index "RankedEchoes$Alarms" "howMany" "I" ∈ lw_big) (hdg : decode cc pc = .ok (.putfield index, 3)) (kk : ∀ (x1 : IS) (H1 : Heap) (locs1 : List Loc), x1 = q_up x 21 (fun _ => v) → va_P D vwCl (q_WX cI cJ ad x1 j) H1 → va_D A (q_WX cI cJ ad x1 j) → va_S A s.heap H1 locs1 → W p l e R s m args below meth c H1 locs1 cells slots Q (F0 m (pc + 3) ls rest)) : W p l e R s m args below meth c H locs cells slots Q (F0 m pc ls (.int v :: .ref (ad 4) :: rest)) := va_put (D := D) (ci := 0) (v := .int v) (ty := .int) (C := RX0) (T := TX0) (N := 7) (ref := "RankedEchoes$Alarms") hM.1.1 hM.1.2.1 hM.1.2.2.2.2 uw_X0 tyX0 tyX0_ok nmX0 hM.1.2.2.2.1 hM.2.1 hP hD hS 4 rfl rfl 5 (by decide) (hM.1.2.2.2.2 _ hlk) (fun _ h9 => h9) rfl (by decide +kernel) rfl rfl (Nat.le_of_ble_eq_true rfl) hdg (fun H1 locs1 h1 h2 h3 => kk _ H1 locs1 rfl h1 h2 h3)
theorem qg_X_X0_bunches {ad : Nat → Nat} {x : IS} {j : JS} {index : Nat} (hM : q_M p m c cc nL s args own D cI cJ A g) (hP : va_P D vwCl (q_WX cI cJ ad x j) H) (hlk : Cond.fieldLink own index "RankedEchoes$Alarms" "bunches" "I" ∈ lw_big) (hdg : decode cc pc = .ok (.getfield index, 3)) (kk : W p l e R s m args below meth c H locs cells slots Q (F0 m (pc + 3) ls (.int (x 22 0) :: rest))) : W p l e R s m args below meth c H locs cells slots Q (F0 m pc ls (.ref (ad 4) :: rest)) := va_get (D := D) (ci := 0) (C := RX0) (T := TX0) (N := 7) (ref := "RankedEchoes$Alarms") hM.1.1 hM.1.2.1 hM.1.2.2.2.2 uw_X0 hM.1.2.2.2.1 hM.2.1 hP 4 rfl rfl 6 (by decide) (hM.1.2.2.2.2 _ hlk) (fun _ h9 => h9) rfl hdg kk
theorem qp_X_X0_bunches {ad : Nat → Nat} {x : IS} {j : JS} {index : Nat} {v : Int32} (hM : q_M p m c cc nL s args own D cI cJ A g) (hP : va_P D vwCl (q_WX cI cJ ad x j) H) (hD : va_D A (q_WX cI cJ ad x j)) (hS : va_S A s.heap H locs) (hlk : Cond.fieldLink own index "RankedEchoes$Alarms" "bunches" "I" ∈ lw_big) (hdg : decode cc pc = .ok (.putfield index, 3)) (kk : ∀ (x1 : IS) (H1 : Heap) (locs1 : List Loc), x1 = q_up x 22 (fun _ => v) → va_P D vwCl (q_WX cI cJ ad x1 j) H1 → va_D A (q_WX cI cJ ad x1 j) → va_S A s.heap H1 locs1 → W p l e R s m args below meth c H1 locs1 cells slots Q (F0 m (pc + 3) ls rest)) : W p l e R s m args below meth c H locs cells slots Q (F0 m pc ls (.int v :: .ref (ad 4) :: rest)) := va_put (D := D) (ci := 0) (v := .int v) (ty := .int) (C := RX0) (T := TX0) (N := 7) (ref := "RankedEchoes$Alarms") hM.1.1 hM.1.2.1 hM.1.2.2.2.2 uw_X0 tyX0 tyX0_ok nmX0 hM.1.2.2.2.1 hM.2.1 hP hD hS 4 rfl rfl 6 (by decide) (hM.1.2.2.2.2 _ hlk) (fun _ h9 => h9) rfl (by decide +kernel) rfl rfl (Nat.le_of_ble_eq_true rfl) hdg (fun H1 locs1 h1 h2 h3 => kk _ H1 locs1 rfl h1 h2 h3)
theorem qg_X_X1_weights {ad : Nat → Nat} {x : IS} {j : JS} {index : Nat} (hM : q_M p m c cc nL s args own D cI cJ A g) (hP : va_P D vwCl (q_WX cI cJ ad x j) H) (hlk : Cond.fieldLink own index "RankedEchoes$Dice" "weights" "[I" ∈ lw_big) (hdg : decode cc pc = .ok (.getfield index, 3)) (kk : W p l e R s m args below meth c H locs cells slots Q (F0 m (pc + 3) ls (.ref (ad 21) :: rest))) : W p l e R s m args below meth c H locs cells slots Q (F0 m pc ls (.ref (ad 5) :: rest)) := va_get (D := D) (ci := 1) (C := RX1) (T := TX1) (N := 4) (ref := "RankedEchoes$Dice") hM.1.1 hM.1.2.1 hM.1.2.2.2.2 uw_X1 hM.1.2.2.2.1 hM.2.1 hP 5 rfl rfl 0 (by decide) (hM.1.2.2.2.2 _ hlk) (fun _ h9 => h9) rfl hdg kk
theorem ql_X_X1_weights {ad : Nat → Nat} {x : IS} {j : JS} {i : Int32} (hM : q_M p m c cc nL s args own D cI cJ A g) (hP : va_P D vwCl (q_WX cI cJ ad x j) H) (hi : q_in i 8) (hdg : decode cc pc = .ok (.iaload, 1)) (kk : W p l e R s m args below meth c H locs cells slots Q (F0 m (pc + 1) ls (.int (x 23 i.toNatClampNeg) :: rest))) : W p l e R s m args below meth c H locs cells slots Q (F0 m pc ls (.int i :: .ref (ad 21) :: rest)) := va_iald hM.1.1 hM.1.2.1 hM.2.1 hP 21 0 rfl rfl (q_vp hi) hdg kk
theorem qs_X_X1_weights {ad : Nat → Nat} {x : IS} {j : JS} {i v : Int32} (hM : q_M p m c cc nL s args own D cI cJ A g) (hP : va_P D vwCl (q_WX cI cJ ad x j) H) (hD : va_D A (q_WX cI cJ ad x j)) (hS : va_S A s.heap H locs) (hi : q_in i 8) (hdg : decode cc pc = .ok (.iastore, 1)) (kk : ∀ (x1 : IS) (H1 : Heap) (locs1 : List Loc), x1 = q_up x 23 (upd (x 23) i.toNatClampNeg v) → va_P D vwCl (q_WX cI cJ ad x1 j) H1 → va_D A (q_WX cI cJ ad x1 j) → va_S A s.heap H1 locs1 → W p l e R s m args below meth c H1 locs1 cells slots Q (F0 m (pc + 1) ls rest)) : W p l e R s m args below meth c H locs cells slots Q (F0 m pc ls (.int v :: .int i :: .ref (ad 21) :: rest)) := va_iast hM.1.1 hM.1.2.1 hM.2.1 hP hD hS 21 0 rfl rfl (q_vp hi) hdg (fun H1 locs1 h1 h2 h3 => kk _ H1 locs1 rfl h1 h2 h3)
theorem qn_X_X1_weights {ad : Nat → Nat} {x : IS} {j : JS} (hM : q_M p m c cc nL s args own D cI cJ A g) (hP : va_P D vwCl (q_WX cI cJ ad x j) H) (hdg : decode cc pc = .ok (.arraylength, 1)) (kk : W p l e R s m args below meth c H locs cells slots Q (F0 m (pc + 1) ls (.int 8 :: rest))) : W p l e R s m args below meth c H locs cells slots Q (F0 m pc ls (.ref (ad 21) :: rest)) := va_alen hM.1.1 hM.1.2.1 hM.2.1 hP 21 0 rfl (ty := .int) rfl rfl hdg kk
theorem qg_X_X1_waysByHowMany {ad : Nat → Nat} {x : IS} {j : JS} {index : Nat} (hM : q_M p m c cc nL s args own D cI cJ A g) (hP : va_P D vwCl (q_WX cI cJ ad x j) H) (hlk : Cond.fieldLink own index "RankedEchoes$Dice" "waysByHowMany" "[J" ∈ lw_big) (hdg : decode cc pc = .ok (.getfield index, 3)) (kk : W p l e R s m args below meth c H locs cells slots Q (F0 m (pc + 3) ls (.ref (ad 22) :: rest))) : W p l e R s m args below meth c H locs cells slots Q (F0 m pc ls (.ref (ad 5) :: rest)) := va_get (D := D) (ci := 1) (C := RX1) (T := TX1) (N := 4) (ref := "RankedEchoes$Dice") hM.1.1 hM.1.2.1 hM.1.2.2.2.2 uw_X1 hM.1.2.2.2.1 hM.2.1 hP 5 rfl rfl 1 (by decide) (hM.1.2.2.2.2 _ hlk) (fun _ h9 => h9) rfl hdg kk
theorem ql_X_X1_waysByHowMany {ad : Nat → Nat} {x : IS} {j : JS} {i : Int32} (hM : q_M p m c cc nL s args own D cI cJ A g) (hP : va_P D vwCl (q_WX cI cJ ad x j) H) (hi : q_in i 13) (hdg : decode cc pc = .ok (.laload, 1)) (kk : W p l e R s m args below meth c H locs cells slots Q (F0 m (pc + 1) ls (.long (j 0 i.toNatClampNeg) :: rest))) : W p l e R s m args below meth c H locs cells slots Q (F0 m pc ls (.int i :: .ref (ad 22) :: rest)) := va_lald hM.1.1 hM.1.2.1 hM.2.1 hP 22 1 rfl rfl (q_vp hi) hdg kk
theorem qs_X_X1_waysByHowMany {ad : Nat → Nat} {x : IS} {j : JS} {i : Int32} {v : Int64} (hM : q_M p m c cc nL s args own D cI cJ A g) (hP : va_P D vwCl (q_WX cI cJ ad x j) H) (hD : va_D A (q_WX cI cJ ad x j)) (hS : va_S A s.heap H locs) (hi : q_in i 13) (hdg : decode cc pc = .ok (.lastore, 1)) (kk : ∀ (j1 : JS) (H1 : Heap) (locs1 : List Loc), j1 = q_upJ j 0 (vp_updL (j 0) i.toNatClampNeg v) → va_P D vwCl (q_WX cI cJ ad x j1) H1 → va_D A (q_WX cI cJ ad x j1) → va_S A s.heap H1 locs1 → W p l e R s m args below meth c H1 locs1 cells slots Q (F0 m (pc + 1) ls rest)) : W p l e R s m args below meth c H locs cells slots Q (F0 m pc ls (.long v :: .int i :: .ref (ad 22) :: rest)) := va_last hM.1.1 hM.1.2.1 hM.2.1 hP hD hS 22 1 rfl rfl (q_vp hi) hdg (fun H1 locs1 h1 h2 h3 => kk _ H1 locs1 rfl h1 h2 h3)
theorem qg_X_X1_floorWays {ad : Nat → Nat} {x : IS} {j : JS} {index : Nat} (hM : q_M p m c cc nL s args own D cI cJ A g) (hP : va_P D vwCl (q_WX cI cJ ad x j) H) (hlk : Cond.fieldLink own index "RankedEchoes$Dice" "floorWays" "[J" ∈ lw_big) (hdg : decode cc pc = .ok (.getfield index, 3)) (kk : W p l e R s m args below meth c H locs cells slots Q (F0 m (pc + 3) ls (.ref (ad 23) :: rest))) : W p l e R s m args below meth c H locs cells slots Q (F0 m pc ls (.ref (ad 5) :: rest)) := va_get (D := D) (ci := 1) (C := RX1) (T := TX1) (N := 4) (ref := "RankedEchoes$Dice") hM.1.1 hM.1.2.1 hM.1.2.2.2.2 uw_X1 hM.1.2.2.2.1 hM.2.1 hP 5 rfl rfl 2 (by decide) (hM.1.2.2.2.2 _ hlk) (fun _ h9 => h9) rfl hdg kk
theorem ql_X_X1_floorWays {ad : Nat → Nat} {x : IS} {j : JS} {i : Int32} (hM : q_M p m c cc nL s args own D cI cJ A g) (hP : va_P D vwCl (q_WX cI cJ ad x j) H) (hi : q_in i 8) (hdg : decode cc pc = .ok (.laload, 1)) (kk : W p l e R s m args below meth c H locs cells slots Q (F0 m (pc + 1) ls (.long (j 1 i.toNatClampNeg) :: rest))) : W p l e R s m args below meth c H locs cells slots Q (F0 m pc ls (.int i :: .ref (ad 23) :: rest)) := va_lald hM.1.1 hM.1.2.1 hM.2.1 hP 23 1 rfl rfl (q_vp hi) hdg kk
theorem qs_X_X1_floorWays {ad : Nat → Nat} {x : IS} {j : JS} {i : Int32} {v : Int64} (hM : q_M p m c cc nL s args own D cI cJ A g) (hP : va_P D vwCl (q_WX cI cJ ad x j) H) (hD : va_D A (q_WX cI cJ ad x j)) (hS : va_S A s.heap H locs) (hi : q_in i 8) (hdg : decode cc pc = .ok (.lastore, 1)) (kk : ∀ (j1 : JS) (H1 : Heap) (locs1 : List Loc), j1 = q_upJ j 1 (vp_updL (j 1) i.toNatClampNeg v) → va_P D vwCl (q_WX cI cJ ad x j1) H1 → va_D A (q_WX cI cJ ad x j1) → va_S A s.heap H1 locs1 → W p l e R s m args below meth c H1 locs1 cells slots Q (F0 m (pc + 1) ls rest)) : W p l e R s m args below meth c H locs cells slots Q (F0 m pc ls (.long v :: .int i :: .ref (ad 23) :: rest)) := va_last hM.1.1 hM.1.2.1 hM.2.1 hP hD hS 23 1 rfl rfl (q_vp hi) hdg (fun H1 locs1 h1 h2 h3 => kk _ H1 locs1 rfl h1 h2 h3)
theorem qg_X_X1_together {ad : Nat → Nat} {x : IS} {j : JS} {index : Nat} (hM : q_M p m c cc nL s args own D cI cJ A g) (hP : va_P D vwCl (q_WX cI cJ ad x j) H) (hlk : Cond.fieldLink own index "RankedEchoes$Dice" "together" "I" ∈ lw_big) (hdg : decode cc pc = .ok (.getfield index, 3)) (kk : W p l e R s m args below meth c H locs cells slots Q (F0 m (pc + 3) ls (.int (x 24 0) :: rest))) : W p l e R s m args below meth c H locs cells slots Q (F0 m pc ls (.ref (ad 5) :: rest)) := va_get (D := D) (ci := 1) (C := RX1) (T := TX1) (N := 4) (ref := "RankedEchoes$Dice") hM.1.1 hM.1.2.1 hM.1.2.2.2.2 uw_X1 hM.1.2.2.2.1 hM.2.1 hP 5 rfl rfl 3 (by decide) (hM.1.2.2.2.2 _ hlk) (fun _ h9 => h9) rfl hdg kk
theorem qp_X_X1_together {ad : Nat → Nat} {x : IS} {j : JS} {index : Nat} {v : Int32} (hM : q_M p m c cc nL s args own D cI cJ A g) (hP : va_P D vwCl (q_WX cI cJ ad x j) H) (hD : va_D A (q_WX cI cJ ad x j)) (hS : va_S A s.heap H locs) (hlk : Cond.fieldLink own index "RankedEchoes$Dice" "together" "I" ∈ lw_big) (hdg : decode cc pc = .ok (.putfield index, 3)) (kk : ∀ (x1 : IS) (H1 : Heap) (locs1 : List Loc), x1 = q_up x 24 (fun _ => v) → va_P D vwCl (q_WX cI cJ ad x1 j) H1 → va_D A (q_WX cI cJ ad x1 j) → va_S A s.heap H1 locs1 → W p l e R s m args below meth c H1 locs1 cells slots Q (F0 m (pc + 3) ls rest)) : W p l e R s m args below meth c H locs cells slots Q (F0 m pc ls (.int v :: .ref (ad 5) :: rest)) := va_put (D := D) (ci := 1) (v := .int v) (ty := .int) (C := RX1) (T := TX1) (N := 4) (ref := "RankedEchoes$Dice") hM.1.1 hM.1.2.1 hM.1.2.2.2.2 uw_X1 tyX1 tyX1_ok nmX1 hM.1.2.2.2.1 hM.2.1 hP hD hS 5 rfl rfl 3 (by decide) (hM.1.2.2.2.2 _ hlk) (fun _ h9 => h9) rfl (by decide +kernel) rfl rfl (Nat.le_of_ble_eq_true rfl) hdg (fun H1 locs1 h1 h2 h3 => kk _ H1 locs1 rfl h1 h2 h3)
theorem qg_X_X2_kinds {ad : Nat → Nat} {x : IS} {j : JS} {index : Nat} (hM : q_M p m c cc nL s args own D cI cJ A g) (hP : va_P D vwCl (q_WX cI cJ ad x j) H) (hlk : Cond.fieldLink own index "RankedEchoes$Past" "kinds" "[I" ∈ lw_big) (hdg : decode cc pc = .ok (.getfield index, 3)) (kk : W p l e R s m args below meth c H locs cells slots Q (F0 m (pc + 3) ls (.ref (ad 24) :: rest))) : W p l e R s m args below meth c H locs cells slots Q (F0 m pc ls (.ref (ad 6) :: rest)) := va_get (D := D) (ci := 2) (C := RX2) (T := TX2) (N := 4) (ref := "RankedEchoes$Past") hM.1.1 hM.1.2.1 hM.1.2.2.2.2 uw_X2 hM.1.2.2.2.1 hM.2.1 hP 6 rfl rfl 0 (by decide) (hM.1.2.2.2.2 _ hlk) (fun _ h9 => h9) rfl hdg kk
theorem ql_X_X2_kinds {ad : Nat → Nat} {x : IS} {j : JS} {i : Int32} (hM : q_M p m c cc nL s args own D cI cJ A g) (hP : va_P D vwCl (q_WX cI cJ ad x j) H) (hi : q_in i 6) (hdg : decode cc pc = .ok (.iaload, 1)) (kk : W p l e R s m args below meth c H locs cells slots Q (F0 m (pc + 1) ls (.int (x 25 i.toNatClampNeg) :: rest))) : W p l e R s m args below meth c H locs cells slots Q (F0 m pc ls (.int i :: .ref (ad 24) :: rest)) := va_iald hM.1.1 hM.1.2.1 hM.2.1 hP 24 0 rfl rfl (q_vp hi) hdg kk
theorem qs_X_X2_kinds {ad : Nat → Nat} {x : IS} {j : JS} {i v : Int32} (hM : q_M p m c cc nL s args own D cI cJ A g) (hP : va_P D vwCl (q_WX cI cJ ad x j) H) (hD : va_D A (q_WX cI cJ ad x j)) (hS : va_S A s.heap H locs) (hi : q_in i 6) (hdg : decode cc pc = .ok (.iastore, 1)) (kk : ∀ (x1 : IS) (H1 : Heap) (locs1 : List Loc), x1 = q_up x 25 (upd (x 25) i.toNatClampNeg v) → va_P D vwCl (q_WX cI cJ ad x1 j) H1 → va_D A (q_WX cI cJ ad x1 j) → va_S A s.heap H1 locs1 → W p l e R s m args below meth c H1 locs1 cells slots Q (F0 m (pc + 1) ls rest)) : W p l e R s m args below meth c H locs cells slots Q (F0 m pc ls (.int v :: .int i :: .ref (ad 24) :: rest)) := va_iast hM.1.1 hM.1.2.1 hM.2.1 hP hD hS 24 0 rfl rfl (q_vp hi) hdg (fun H1 locs1 h1 h2 h3 => kk _ H1 locs1 rfl h1 h2 h3)
theorem qn_X_X2_kinds {ad : Nat → Nat} {x : IS} {j : JS} (hM : q_M p m c cc nL s args own D cI cJ A g) (hP : va_P D vwCl (q_WX cI cJ ad x j) H) (hdg : decode cc pc = .ok (.arraylength, 1)) (kk : W p l e R s m args below meth c H locs cells slots Q (F0 m (pc + 1) ls (.int 6 :: rest))) : W p l e R s m args below meth c H locs cells slots Q (F0 m pc ls (.ref (ad 24) :: rest)) := va_alen hM.1.1 hM.1.2.1 hM.2.1 hP 24 0 rfl (ty := .int) rfl rfl hdg kk
theorem qg_X_X2_places {ad : Nat → Nat} {x : IS} {j : JS} {index : Nat} (hM : q_M p m c cc nL s args own D cI cJ A g) (hP : va_P D vwCl (q_WX cI cJ ad x j) H) (hlk : Cond.fieldLink own index "RankedEchoes$Past" "places" "[I" ∈ lw_big) (hdg : decode cc pc = .ok (.getfield index, 3)) (kk : W p l e R s m args below meth c H locs cells slots Q (F0 m (pc + 3) ls (.ref (ad 25) :: rest))) : W p l e R s m args below meth c H locs cells slots Q (F0 m pc ls (.ref (ad 6) :: rest)) := va_get (D := D) (ci := 2) (C := RX2) (T := TX2) (N := 4) (ref := "RankedEchoes$Past") hM.1.1 hM.1.2.1 hM.1.2.2.2.2 uw_X2 hM.1.2.2.2.1 hM.2.1 hP 6 rfl rfl 1 (by decide) (hM.1.2.2.2.2 _ hlk) (fun _ h9 => h9) rfl hdg kk
theorem ql_X_X2_places {ad : Nat → Nat} {x : IS} {j : JS} {i : Int32} (hM : q_M p m c cc nL s args own D cI cJ A g) (hP : va_P D vwCl (q_WX cI cJ ad x j) H) (hi : q_in i 6) (hdg : decode cc pc = .ok (.iaload, 1)) (kk : W p l e R s m args below meth c H locs cells slots Q (F0 m (pc + 1) ls (.int (x 26 i.toNatClampNeg) :: rest))) : W p l e R s m args below meth c H locs cells slots Q (F0 m pc ls (.int i :: .ref (ad 25) :: rest)) := va_iald hM.1.1 hM.1.2.1 hM.2.1 hP 25 0 rfl rfl (q_vp hi) hdg kk
theorem qs_X_X2_places {ad : Nat → Nat} {x : IS} {j : JS} {i v : Int32} (hM : q_M p m c cc nL s args own D cI cJ A g) (hP : va_P D vwCl (q_WX cI cJ ad x j) H) (hD : va_D A (q_WX cI cJ ad x j)) (hS : va_S A s.heap H locs) (hi : q_in i 6) (hdg : decode cc pc = .ok (.iastore, 1)) (kk : ∀ (x1 : IS) (H1 : Heap) (locs1 : List Loc), x1 = q_up x 26 (upd (x 26) i.toNatClampNeg v) → va_P D vwCl (q_WX cI cJ ad x1 j) H1 → va_D A (q_WX cI cJ ad x1 j) → va_S A s.heap H1 locs1 → W p l e R s m args below meth c H1 locs1 cells slots Q (F0 m (pc + 1) ls rest)) : W p l e R s m args below meth c H locs cells slots Q (F0 m pc ls (.int v :: .int i :: .ref (ad 25) :: rest)) := va_iast hM.1.1 hM.1.2.1 hM.2.1 hP hD hS 25 0 rfl rfl (q_vp hi) hdg (fun H1 locs1 h1 h2 h3 => kk _ H1 locs1 rfl h1 h2 h3)
theorem qn_X_X2_places {ad : Nat → Nat} {x : IS} {j : JS} (hM : q_M p m c cc nL s args own D cI cJ A g) (hP : va_P D vwCl (q_WX cI cJ ad x j) H) (hdg : decode cc pc = .ok (.arraylength, 1)) (kk : W p l e R s m args below meth c H locs cells slots Q (F0 m (pc + 1) ls (.int 6 :: rest))) : W p l e R s m args below meth c H locs cells slots Q (F0 m pc ls (.ref (ad 25) :: rest)) := va_alen hM.1.1 hM.1.2.1 hM.2.1 hP 25 0 rfl (ty := .int) rfl rfl hdg kk
theorem qg_X_X2_values {ad : Nat → Nat} {x : IS} {j : JS} {index : Nat} (hM : q_M p m c cc nL s args own D cI cJ A g) (hP : va_P D vwCl (q_WX cI cJ ad x j) H) (hlk : Cond.fieldLink own index "RankedEchoes$Past" "values" "[I" ∈ lw_big) (hdg : decode cc pc = .ok (.getfield index, 3)) (kk : W p l e R s m args below meth c H locs cells slots Q (F0 m (pc + 3) ls (.ref (ad 26) :: rest))) : W p l e R s m args below meth c H locs cells slots Q (F0 m pc ls (.ref (ad 6) :: rest)) := va_get (D := D) (ci := 2) (C := RX2) (T := TX2) (N := 4) (ref := "RankedEchoes$Past") hM.1.1 hM.1.2.1 hM.1.2.2.2.2 uw_X2 hM.1.2.2.2.1 hM.2.1 hP 6 rfl rfl 2 (by decide) (hM.1.2.2.2.2 _ hlk) (fun _ h9 => h9) rfl hdg kk
theorem ql_X_X2_values {ad : Nat → Nat} {x : IS} {j : JS} {i : Int32} (hM : q_M p m c cc nL s args own D cI cJ A g) (hP : va_P D vwCl (q_WX cI cJ ad x j) H) (hi : q_in i 6) (hdg : decode cc pc = .ok (.iaload, 1)) (kk : W p l e R s m args below meth c H locs cells slots Q (F0 m (pc + 1) ls (.int (x 27 i.toNatClampNeg) :: rest))) : W p l e R s m args below meth c H locs cells slots Q (F0 m pc ls (.int i :: .ref (ad 26) :: rest)) := va_iald hM.1.1 hM.1.2.1 hM.2.1 hP 26 0 rfl rfl (q_vp hi) hdg kk
theorem qs_X_X2_values {ad : Nat → Nat} {x : IS} {j : JS} {i v : Int32} (hM : q_M p m c cc nL s args own D cI cJ A g) (hP : va_P D vwCl (q_WX cI cJ ad x j) H) (hD : va_D A (q_WX cI cJ ad x j)) (hS : va_S A s.heap H locs) (hi : q_in i 6) (hdg : decode cc pc = .ok (.iastore, 1)) (kk : ∀ (x1 : IS) (H1 : Heap) (locs1 : List Loc), x1 = q_up x 27 (upd (x 27) i.toNatClampNeg v) → va_P D vwCl (q_WX cI cJ ad x1 j) H1 → va_D A (q_WX cI cJ ad x1 j) → va_S A s.heap H1 locs1 → W p l e R s m args below meth c H1 locs1 cells slots Q (F0 m (pc + 1) ls rest)) : W p l e R s m args below meth c H locs cells slots Q (F0 m pc ls (.int v :: .int i :: .ref (ad 26) :: rest)) := va_iast hM.1.1 hM.1.2.1 hM.2.1 hP hD hS 26 0 rfl rfl (q_vp hi) hdg (fun H1 locs1 h1 h2 h3 => kk _ H1 locs1 rfl h1 h2 h3)
theorem qn_X_X2_values {ad : Nat → Nat} {x : IS} {j : JS} (hM : q_M p m c cc nL s args own D cI cJ A g) (hP : va_P D vwCl (q_WX cI cJ ad x j) H) (hdg : decode cc pc = .ok (.arraylength, 1)) (kk : W p l e R s m args below meth c H locs cells slots Q (F0 m (pc + 1) ls (.int 6 :: rest))) : W p l e R s m args below meth c H locs cells slots Q (F0 m pc ls (.ref (ad 26) :: rest)) := va_alen hM.1.1 hM.1.2.1 hM.2.1 hP 26 0 rfl (ty := .int) rfl rfl hdg kk
theorem qg_X_X2_size {ad : Nat → Nat} {x : IS} {j : JS} {index : Nat} (hM : q_M p m c cc nL s args own D cI cJ A g) (hP : va_P D vwCl (q_WX cI cJ ad x j) H) (hlk : Cond.fieldLink own index "RankedEchoes$Past" "size" "I" ∈ lw_big) (hdg : decode cc pc = .ok (.getfield index, 3)) (kk : W p l e R s m args below meth c H locs cells slots Q (F0 m (pc + 3) ls (.int (x 28 0) :: rest))) : W p l e R s m args below meth c H locs cells slots Q (F0 m pc ls (.ref (ad 6) :: rest)) := va_get (D := D) (ci := 2) (C := RX2) (T := TX2) (N := 4) (ref := "RankedEchoes$Past") hM.1.1 hM.1.2.1 hM.1.2.2.2.2 uw_X2 hM.1.2.2.2.1 hM.2.1 hP 6 rfl rfl 3 (by decide) (hM.1.2.2.2.2 _ hlk) (fun _ h9 => h9) rfl hdg kk
theorem qp_X_X2_size {ad : Nat → Nat} {x : IS} {j : JS} {index : Nat} {v : Int32} (hM : q_M p m c cc nL s args own D cI cJ A g) (hP : va_P D vwCl (q_WX cI cJ ad x j) H) (hD : va_D A (q_WX cI cJ ad x j)) (hS : va_S A s.heap H locs) (hlk : Cond.fieldLink own index "RankedEchoes$Past" "size" "I" ∈ lw_big) (hdg : decode cc pc = .ok (.putfield index, 3)) (kk : ∀ (x1 : IS) (H1 : Heap) (locs1 : List Loc), x1 = q_up x 28 (fun _ => v) → va_P D vwCl (q_WX cI cJ ad x1 j) H1 → va_D A (q_WX cI cJ ad x1 j) → va_S A s.heap H1 locs1 → W p l e R s m args below meth c H1 locs1 cells slots Q (F0 m (pc + 3) ls rest)) : W p l e R s m args below meth c H locs cells slots Q (F0 m pc ls (.int v :: .ref (ad 6) :: rest)) := va_put (D := D) (ci := 2) (v := .int v) (ty := .int) (C := RX2) (T := TX2) (N := 4) (ref := "RankedEchoes$Past") hM.1.1 hM.1.2.1 hM.1.2.2.2.2 uw_X2 tyX2 tyX2_ok nmX2 hM.1.2.2.2.1 hM.2.1 hP hD hS 6 rfl rfl 3 (by decide) (hM.1.2.2.2.2 _ hlk) (fun _ h9 => h9) rfl (by decide +kernel) rfl rfl (Nat.le_of_ble_eq_true rfl) hdg (fun H1 locs1 h1 h2 h3 => kk _ H1 locs1 rfl h1 h2 h3)
end
end
section
section
variable {p : Program} {l : Launch} {e : Env} {R : Room} {s : State} {m : MethodId} {args : Array Value} {below : List Frame} {meth : Method} {c : Code} {cc : ByteArray} {nL : Nat} {own : String} {H : Heap} {locs : List Loc} {cells slots : Nat} {Q : State → Prop} {pc : Nat} {ls : Array Slot} {rest : List Value} {A : Nat → Prop} {D : va_G} {cI cJ : ClassId} {g : Nat → Nat}
theorem qgs_LOOK_WITHOUT {index : Nat} (hM : q_M p m c cc nL s args own D cI cJ A g) (hS : va_S A s.heap H locs) (hlk : Cond.fieldLink own index "RankedEchoes" "LOOK_WITHOUT" "[I" ∈ lw_big) (hdg : decode cc pc = .ok (.getstatic index, 3)) (kk : W p l e R s m args below meth c H locs cells slots Q (F0 m (pc + 3) ls (.ref (g 0) :: rest))) : W p l e R s m args below meth c H locs cells slots Q (F0 m pc ls rest) := va_gets hM.1.1 hM.1.2.1 hM.2.2.2.2.2.1.1 hS hM.1.2.2.2.1 (hM.1.2.2.2.2 _ hlk) (fun _ h => h) hdg kk
theorem qgn_LOOK_WITHOUT {index : Nat} (hM : q_M p m c cc nL s args own D cI cJ A g) (hS : va_S A s.heap H locs) (hlk : va_Nw (.fieldLinkNest own index "RankedEchoes" "LOOK_WITHOUT" "[I" RX6) s) (hdg : decode cc pc = .ok (.getstatic index, 3)) (kk : W p l e R s m args below meth c H locs cells slots Q (F0 m (pc + 3) ls (.ref (g 0) :: rest))) : W p l e R s m args below meth c H locs cells slots Q (F0 m pc ls rest) := va_getsN hM.1.1 hM.1.2.1 hM.2.2.2.2.2.1.1 hS hM.1.2.2.2.1 (va_Nw.use rfl hlk) (fun _ h => h) hdg kk
theorem qls_LOOK_WITHOUT {i : Int32} (hM : q_M p m c cc nL s args own D cI cJ A g) (hS : va_S A s.heap H locs) (hi : q_in i 5) (hdg : decode cc pc = .ok (.iaload, 1)) (kk : W p l e R s m args below meth c H locs cells slots Q (F0 m (pc + 1) ls (.int (q_LW i.toNatClampNeg) :: rest))) : W p l e R s m args below meth c H locs cells slots Q (F0 m pc ls (.int i :: .ref (g 0) :: rest)) := va_ti hM.1.1 hM.1.2.1 hM.2.2.2.2.2.1.2 hS (q_vp hi) rfl hdg kk
theorem qns_LOOK_WITHOUT (hM : q_M p m c cc nL s args own D cI cJ A g) (hS : va_S A s.heap H locs) (hdg : decode cc pc = .ok (.arraylength, 1)) (kk : W p l e R s m args below meth c H locs cells slots Q (F0 m (pc + 1) ls (.int 5 :: rest))) : W p l e R s m args below meth c H locs cells slots Q (F0 m pc ls (.ref (g 0) :: rest)) := va_tlen hM.1.1 hM.1.2.1 hM.2.2.2.2.2.1.2 hS rfl hdg kk
theorem qgs_DICE_WITHOUT {index : Nat} (hM : q_M p m c cc nL s args own D cI cJ A g) (hS : va_S A s.heap H locs) (hlk : Cond.fieldLink own index "RankedEchoes" "DICE_WITHOUT" "[I" ∈ lw_big) (hdg : decode cc pc = .ok (.getstatic index, 3)) (kk : W p l e R s m args below meth c H locs cells slots Q (F0 m (pc + 3) ls (.ref (g 1) :: rest))) : W p l e R s m args below meth c H locs cells slots Q (F0 m pc ls rest) := va_gets hM.1.1 hM.1.2.1 hM.2.2.2.2.2.2.1.1 hS hM.1.2.2.2.1 (hM.1.2.2.2.2 _ hlk) (fun _ h => h) hdg kk
theorem qgn_DICE_WITHOUT {index : Nat} (hM : q_M p m c cc nL s args own D cI cJ A g) (hS : va_S A s.heap H locs) (hlk : va_Nw (.fieldLinkNest own index "RankedEchoes" "DICE_WITHOUT" "[I" RX6) s) (hdg : decode cc pc = .ok (.getstatic index, 3)) (kk : W p l e R s m args below meth c H locs cells slots Q (F0 m (pc + 3) ls (.ref (g 1) :: rest))) : W p l e R s m args below meth c H locs cells slots Q (F0 m pc ls rest) := va_getsN hM.1.1 hM.1.2.1 hM.2.2.2.2.2.2.1.1 hS hM.1.2.2.2.1 (va_Nw.use rfl hlk) (fun _ h => h) hdg kk
theorem qls_DICE_WITHOUT {i : Int32} (hM : q_M p m c cc nL s args own D cI cJ A g) (hS : va_S A s.heap H locs) (hi : q_in i 8) (hdg : decode cc pc = .ok (.iaload, 1)) (kk : W p l e R s m args below meth c H locs cells slots Q (F0 m (pc + 1) ls (.int (q_DW i.toNatClampNeg) :: rest))) : W p l e R s m args below meth c H locs cells slots Q (F0 m pc ls (.int i :: .ref (g 1) :: rest)) := va_ti hM.1.1 hM.1.2.1 hM.2.2.2.2.2.2.1.2 hS (q_vp hi) rfl hdg kk
theorem qns_DICE_WITHOUT (hM : q_M p m c cc nL s args own D cI cJ A g) (hS : va_S A s.heap H locs) (hdg : decode cc pc = .ok (.arraylength, 1)) (kk : W p l e R s m args below meth c H locs cells slots Q (F0 m (pc + 1) ls (.int 8 :: rest))) : W p l e R s m args below meth c H locs cells slots Q (F0 m pc ls (.ref (g 1) :: rest)) := va_tlen hM.1.1 hM.1.2.1 hM.2.2.2.2.2.2.1.2 hS rfl hdg kk
theorem qgs_FIRST_CELLS {index : Nat} (hM : q_M p m c cc nL s args own D cI cJ A g) (hS : va_S A s.heap H locs) (hlk : Cond.fieldLink own index "RankedEchoes" "FIRST_CELLS" "[I" ∈ lw_big) (hdg : decode cc pc = .ok (.getstatic index, 3)) (kk : W p l e R s m args below meth c H locs cells slots Q (F0 m (pc + 3) ls (.ref (g 2) :: rest))) : W p l e R s m args below meth c H locs cells slots Q (F0 m pc ls rest) := va_gets hM.1.1 hM.1.2.1 hM.2.2.2.2.2.2.2.1.1 hS hM.1.2.2.2.1 (hM.1.2.2.2.2 _ hlk) (fun _ h => h) hdg kk
theorem qgn_FIRST_CELLS {index : Nat} (hM : q_M p m c cc nL s args own D cI cJ A g) (hS : va_S A s.heap H locs) (hlk : va_Nw (.fieldLinkNest own index "RankedEchoes" "FIRST_CELLS" "[I" RX6) s) (hdg : decode cc pc = .ok (.getstatic index, 3)) (kk : W p l e R s m args below meth c H locs cells slots Q (F0 m (pc + 3) ls (.ref (g 2) :: rest))) : W p l e R s m args below meth c H locs cells slots Q (F0 m pc ls rest) := va_getsN hM.1.1 hM.1.2.1 hM.2.2.2.2.2.2.2.1.1 hS hM.1.2.2.2.1 (va_Nw.use rfl hlk) (fun _ h => h) hdg kk
theorem qls_FIRST_CELLS {i : Int32} (hM : q_M p m c cc nL s args own D cI cJ A g) (hS : va_S A s.heap H locs) (hi : q_in i 20) (hdg : decode cc pc = .ok (.iaload, 1)) (kk : W p l e R s m args below meth c H locs cells slots Q (F0 m (pc + 1) ls (.int (q_FC i.toNatClampNeg) :: rest))) : W p l e R s m args below meth c H locs cells slots Q (F0 m pc ls (.int i :: .ref (g 2) :: rest)) := va_ti hM.1.1 hM.1.2.1 hM.2.2.2.2.2.2.2.1.2 hS (q_vp hi) rfl hdg kk
theorem qns_FIRST_CELLS (hM : q_M p m c cc nL s args own D cI cJ A g) (hS : va_S A s.heap H locs) (hdg : decode cc pc = .ok (.arraylength, 1)) (kk : W p l e R s m args below meth c H locs cells slots Q (F0 m (pc + 1) ls (.int 20 :: rest))) : W p l e R s m args below meth c H locs cells slots Q (F0 m pc ls (.ref (g 2) :: rest)) := va_tlen hM.1.1 hM.1.2.1 hM.2.2.2.2.2.2.2.1.2 hS rfl hdg kk
theorem qgs_LOOK_LEAST {index : Nat} (hM : q_M p m c cc nL s args own D cI cJ A g) (hS : va_S A s.heap H locs) (hlk : Cond.fieldLink own index "RankedEchoes" "LOOK_LEAST" "[I" ∈ lw_big) (hdg : decode cc pc = .ok (.getstatic index, 3)) (kk : W p l e R s m args below meth c H locs cells slots Q (F0 m (pc + 3) ls (.ref (g 3) :: rest))) : W p l e R s m args below meth c H locs cells slots Q (F0 m pc ls rest) := va_gets hM.1.1 hM.1.2.1 hM.2.2.2.2.2.2.2.2.1.1 hS hM.1.2.2.2.1 (hM.1.2.2.2.2 _ hlk) (fun _ h => h) hdg kk
theorem qgn_LOOK_LEAST {index : Nat} (hM : q_M p m c cc nL s args own D cI cJ A g) (hS : va_S A s.heap H locs) (hlk : va_Nw (.fieldLinkNest own index "RankedEchoes" "LOOK_LEAST" "[I" RX6) s) (hdg : decode cc pc = .ok (.getstatic index, 3)) (kk : W p l e R s m args below meth c H locs cells slots Q (F0 m (pc + 3) ls (.ref (g 3) :: rest))) : W p l e R s m args below meth c H locs cells slots Q (F0 m pc ls rest) := va_getsN hM.1.1 hM.1.2.1 hM.2.2.2.2.2.2.2.2.1.1 hS hM.1.2.2.2.1 (va_Nw.use rfl hlk) (fun _ h => h) hdg kk
theorem qls_LOOK_LEAST {i : Int32} (hM : q_M p m c cc nL s args own D cI cJ A g) (hS : va_S A s.heap H locs) (hi : q_in i 5) (hdg : decode cc pc = .ok (.iaload, 1)) (kk : W p l e R s m args below meth c H locs cells slots Q (F0 m (pc + 1) ls (.int (q_LL i.toNatClampNeg) :: rest))) : W p l e R s m args below meth c H locs cells slots Q (F0 m pc ls (.int i :: .ref (g 3) :: rest)) := va_ti hM.1.1 hM.1.2.1 hM.2.2.2.2.2.2.2.2.1.2 hS (q_vp hi) rfl hdg kk
theorem qns_LOOK_LEAST (hM : q_M p m c cc nL s args own D cI cJ A g) (hS : va_S A s.heap H locs) (hdg : decode cc pc = .ok (.arraylength, 1)) (kk : W p l e R s m args below meth c H locs cells slots Q (F0 m (pc + 1) ls (.int 5 :: rest))) : W p l e R s m args below meth c H locs cells slots Q (F0 m pc ls (.ref (g 3) :: rest)) := va_tlen hM.1.1 hM.1.2.1 hM.2.2.2.2.2.2.2.2.1.2 hS rfl hdg kk
theorem qgs_LOOK_MOST {index : Nat} (hM : q_M p m c cc nL s args own D cI cJ A g) (hS : va_S A s.heap H locs) (hlk : Cond.fieldLink own index "RankedEchoes" "LOOK_MOST" "[I" ∈ lw_big) (hdg : decode cc pc = .ok (.getstatic index, 3)) (kk : W p l e R s m args below meth c H locs cells slots Q (F0 m (pc + 3) ls (.ref (g 4) :: rest))) : W p l e R s m args below meth c H locs cells slots Q (F0 m pc ls rest) := va_gets hM.1.1 hM.1.2.1 hM.2.2.2.2.2.2.2.2.2.1.1 hS hM.1.2.2.2.1 (hM.1.2.2.2.2 _ hlk) (fun _ h => h) hdg kk
theorem qgn_LOOK_MOST {index : Nat} (hM : q_M p m c cc nL s args own D cI cJ A g) (hS : va_S A s.heap H locs) (hlk : va_Nw (.fieldLinkNest own index "RankedEchoes" "LOOK_MOST" "[I" RX6) s) (hdg : decode cc pc = .ok (.getstatic index, 3)) (kk : W p l e R s m args below meth c H locs cells slots Q (F0 m (pc + 3) ls (.ref (g 4) :: rest))) : W p l e R s m args below meth c H locs cells slots Q (F0 m pc ls rest) := va_getsN hM.1.1 hM.1.2.1 hM.2.2.2.2.2.2.2.2.2.1.1 hS hM.1.2.2.2.1 (va_Nw.use rfl hlk) (fun _ h => h) hdg kk
theorem qls_LOOK_MOST {i : Int32} (hM : q_M p m c cc nL s args own D cI cJ A g) (hS : va_S A s.heap H locs) (hi : q_in i 5) (hdg : decode cc pc = .ok (.iaload, 1)) (kk : W p l e R s m args below meth c H locs cells slots Q (F0 m (pc + 1) ls (.int (q_LM i.toNatClampNeg) :: rest))) : W p l e R s m args below meth c H locs cells slots Q (F0 m pc ls (.int i :: .ref (g 4) :: rest)) := va_ti hM.1.1 hM.1.2.1 hM.2.2.2.2.2.2.2.2.2.1.2 hS (q_vp hi) rfl hdg kk
theorem qns_LOOK_MOST (hM : q_M p m c cc nL s args own D cI cJ A g) (hS : va_S A s.heap H locs) (hdg : decode cc pc = .ok (.arraylength, 1)) (kk : W p l e R s m args below meth c H locs cells slots Q (F0 m (pc + 1) ls (.int 5 :: rest))) : W p l e R s m args below meth c H locs cells slots Q (F0 m pc ls (.ref (g 4) :: rest)) := va_tlen hM.1.1 hM.1.2.1 hM.2.2.2.2.2.2.2.2.2.1.2 hS rfl hdg kk
theorem qk_0 (hM : q_M p m c cc nL s args RX4 D cI cJ A g) (hdg : decode cc pc = .ok (.ldc 35, 2)) (kk : W p l e R s m args below meth c H locs cells slots Q (F0 m (pc + 2) ls (.ref (g (10 + 0)) :: rest))) : W p l e R s m args below meth c H locs cells slots Q (F0 m pc ls rest) := va_ldcS hM.1.1 hM.1.2.1 hM.1.2.2.2.1 hM.2.2.2.2.1.1 hdg kk
theorem qk_1 (hM : q_M p m c cc nL s args RX4 D cI cJ A g) (hdg : decode cc pc = .ok (.ldc 44, 2)) (kk : W p l e R s m args below meth c H locs cells slots Q (F0 m (pc + 2) ls (.ref (g (10 + 1)) :: rest))) : W p l e R s m args below meth c H locs cells slots Q (F0 m pc ls rest) := va_ldcS hM.1.1 hM.1.2.1 hM.1.2.2.2.1 hM.2.2.2.2.1.2.1 hdg kk
theorem qk_2 (hM : q_M p m c cc nL s args RX4 D cI cJ A g) (hdg : decode cc pc = .ok (.ldc 54, 2)) (kk : W p l e R s m args below meth c H locs cells slots Q (F0 m (pc + 2) ls (.ref (g (10 + 2)) :: rest))) : W p l e R s m args below meth c H locs cells slots Q (F0 m pc ls rest) := va_ldcS hM.1.1 hM.1.2.1 hM.1.2.2.2.1 hM.2.2.2.2.1.2.2.1 hdg kk
theorem qk_3 (hM : q_M p m c cc nL s args RX4 D cI cJ A g) (hdg : decode cc pc = .ok (.ldc 59, 2)) (kk : W p l e R s m args below meth c H locs cells slots Q (F0 m (pc + 2) ls (.ref (g (10 + 3)) :: rest))) : W p l e R s m args below meth c H locs cells slots Q (F0 m pc ls rest) := va_ldcS hM.1.1 hM.1.2.1 hM.1.2.2.2.1 hM.2.2.2.2.1.2.2.2.1 hdg kk
theorem qk_4 (hM : q_M p m c cc nL s args RX4 D cI cJ A g) (hdg : decode cc pc = .ok (.ldc 64, 2)) (kk : W p l e R s m args below meth c H locs cells slots Q (F0 m (pc + 2) ls (.ref (g (10 + 4)) :: rest))) : W p l e R s m args below meth c H locs cells slots Q (F0 m pc ls rest) := va_ldcS hM.1.1 hM.1.2.1 hM.1.2.2.2.1 hM.2.2.2.2.1.2.2.2.2.1 hdg kk
theorem qk_5 (hM : q_M p m c cc nL s args RX4 D cI cJ A g) (hdg : decode cc pc = .ok (.ldc 69, 2)) (kk : W p l e R s m args below meth c H locs cells slots Q (F0 m (pc + 2) ls (.ref (g (10 + 5)) :: rest))) : W p l e R s m args below meth c H locs cells slots Q (F0 m pc ls rest) := va_ldcS hM.1.1 hM.1.2.1 hM.1.2.2.2.1 hM.2.2.2.2.1.2.2.2.2.2.1 hdg kk
theorem qk_6 (hM : q_M p m c cc nL s args RX4 D cI cJ A g) (hdg : decode cc pc = .ok (.ldc 71, 2)) (kk : W p l e R s m args below meth c H locs cells slots Q (F0 m (pc + 2) ls (.ref (g (10 + 6)) :: rest))) : W p l e R s m args below meth c H locs cells slots Q (F0 m pc ls rest) := va_ldcS hM.1.1 hM.1.2.1 hM.1.2.2.2.1 hM.2.2.2.2.1.2.2.2.2.2.2 hdg kk
end
section
variable {p : Program} {l : Launch} {e : Env} {R : Room} {s : State} {m : MethodId} {args : Array Value} {below : List Frame} {meth : Method} {c : Code} {cc : ByteArray} {H : Heap} {locs : List Loc} {cells slots : Nat} {Q : State → Prop} {pc : Nat} {ls : Array Slot} {rest : List Value} {A : Nat → Prop} {D : va_G} {cl : List vw_C} {tys : List (ClassId × FieldType)} {ws : va_W} {a : Nat}
theorem q_nn (z : Int32) (hz : ¬ z < 0) : z.toInt = (z.toNatClampNeg : Int) := by
  have h0 : (0 : Int) ≤ z.toInt := by simpa using Int32.le_iff_toInt_le.mp (Int32.not_lt.mp hz)
  show z.toInt = ((z.toInt.toNat : Nat) : Int)
  omega
/-- arraycopy out of a static row of ints -/
theorem q_copyt (hexec : p.tables.exec = Jvm.exec) (hb : c.code = cc) (hml : c.maxLocals = ls.size) {own : String} {index : Nat} (hown : s.vm.findClass own = some m.cls) (hlink : (Cond.methodLink own index arraycopyName).before args s = true) (hnat : (Cond.native arraycopyName).before args s = true) (hstat : (Cond.static arraycopyName).before args s = true) (hini : (Cond.initialized "java/lang/System").before args s = true)
    (hK : va_K D cl tys s) (hP : va_P D cl ws H) (hD : va_D A ws) (hS : va_S A s.heap H locs) {b0 n0 : Nat} {f : Nat → Int32} (hX : va_T .int b0 n0 (fun j => .int (f j)) A s s.heap) (q1 t1 : Nat) {c1 : ClassId} {n1 : Nat} {v : Nat → Int32} (ha1 : ws[q1]? = some (a, .inl (c1, n1, .inl v))) (ht1 : tys[t1]? = some (c1, .int))
    {sp dp n : Int32} (h1 : ¬ sp < 0) (h2 : ¬ dp < 0) (h3 : ¬ n < 0) (h4 : sp.toNatClampNeg + n.toNatClampNeg ≤ n0) (h5 : dp.toNatClampNeg + n.toNatClampNeg ≤ n1)
    (hframes : 1 ≤ R.frames) (hlocals : (rest.map fun v => v.category).sum + (nativeFrameWords "java/lang/System" "arraycopy" 5 + 11) ≤ R.locals) (hdg : decode cc pc = .ok (.invokestatic index, 3))
    (kk : ∀ (H1 : Heap) (locs1 : List Loc), va_P D cl (ws.set q1 (a, .inl (c1, n1, .inl (va_cpy f v sp.toNatClampNeg dp.toNatClampNeg n.toNatClampNeg)))) H1 → va_D A (ws.set q1 (a, .inl (c1, n1, .inl (va_cpy f v sp.toNatClampNeg dp.toNatClampNeg n.toNatClampNeg)))) → va_S A s.heap H1 locs1 → W p l e R s m args below meth c H1 locs1 cells slots Q (F0 m (pc + 3) ls rest)) : W p l e R s m args below meth c H locs cells slots Q (F0 m pc ls (.int n :: .int dp :: .ref a :: .int sp :: .ref b0 :: rest)) := by
  intro T hT X
  obtain ⟨scr, hs1, hs2, hs3, hs4, -, hs5, hs7⟩ := hX
  have hc0 : H[b0]? = some scr := by rw [hS.2.1 b0 (Array.getElem?_eq_some_iff.mp hs1).1 hs7]; exact hs1
  have hc1 : H[a]? = some (vp_cell c1 (n1, .inl v)) := hP q1 _ ha1
  obtain ⟨hs6, k0, hk0, cm0, hkk0⟩ := hs2
  obtain ⟨-, k1, hk1, cm1, hkk1⟩ := (hK.2 t1 _ ht1).1 n1 (fun j => .int (v j))
  obtain ⟨vm', X', step⟩ := X.arraycopy hexec hown hlink hnat hstat hini (src := b0) (dst := a) (cs := scr) (cd := vp_cell c1 (n1, .inl v)) (srcPos := sp) (destPos := dp) (n := n) (by rw [hT]; exact hc0) (by rw [hT]; exact hc1)
    hs6 (fun _ h => by cases h) hs3 (fun h => by cases h) hk0 hk1 hkk0 hkk1 (by simp [refKind]) h1 h2 h3
    (by rw [q_nn sp h1, q_nn n h3]; omega)
    (by rw [q_nn dp h2, q_nn n h3]; show ¬ _ > ((arrV c1 n1 (fun j => .int (v j))).slots.size : Int); rw [arrV_size]; omega)
    (fun vm₁ _ i hi => by
      have e : scr.slots.getD (sp.toNatClampNeg + i) .null = .int (f (sp.toNatClampNeg + i)) := by
        rw [Array.getD_eq_getD_getElem?, hs5 _ (by omega)]
        rfl
      exact ⟨by rw [e]; rfl, by rw [e]; exact trivial⟩)
    (g := F0 m pc ls (.int n :: .int dp :: .ref a :: .int sp :: .ref b0 :: rest)) rfl (by rw [hml]) (rest := rest) rfl (by rw [hb]; exact hdg) hframes (by show 2 * 0 + _ + _ ≤ _; omega)
  rw [show copied scr (vp_cell c1 (n1, .inl v)) sp dp n = vp_cell c1 (n1, .inl (va_cpy f v sp.toNatClampNeg dp.toNatClampNeg n.toNatClampNeg)) from va_copiedX (fun z => .int z) scr c1 f v hs5 h4] at X' step
  generalize va_cpy f v sp.toNatClampNeg dp.toNatClampNeg n.toNatClampNeg = z at X' step kk
  have hl : a < H.size := (Array.getElem?_eq_some_iff.mp hc1).1
  have oq : ∀ q : Nat, q ≠ a → (H.setIfInBounds a (vp_cell c1 (n1, .inl z)))[q]? = H[q]? := fun q hq => by simp [Array.getElem?_setIfInBounds, Ne.symm hq]
  have hS1 : ∀ L : List Loc, (∀ q ∈ L, q.base = a) → va_S A s.heap (H.setIfInBounds a (vp_cell c1 (n1, .inl z))) (locs ++ L) := fun L hL => ⟨by simp; exact hS.1, fun q g1 g2 => by rw [oq q (fun e => g2 (by rw [e]; exact hD.2 q1 _ ha1))]; exact hS.2.1 q g1 g2, fun q hq => (List.mem_append.mp hq).elim (hS.2.2 q) (fun h => by rw [hL q h]; exact hD.2 q1 _ ha1)⟩
  obtain ⟨t, a1, b1⟩ := kk _ _ (hP.set hD ha1 (show (H.setIfInBounds a _)[a]? = some _ by simp [Array.getElem?_setIfInBounds, hl]) oq) (hD.set ha1) (hS1 _ (fun q hq => by obtain ⟨w, -, hw⟩ := List.mem_map.mp hq; rw [← hw])) _ (by rw [← hT]; rfl) X'
  exact ⟨t, step t a1, b1⟩
end
section
variable {p : Program} {l : Launch} {e : Env} {R : Room} {s : State} {m : MethodId} {args : Array Value} {below : List Frame} {meth : Method} {c : Code} {cc : ByteArray} {nL : Nat} {own : String} {H : Heap} {locs : List Loc} {cells slots : Nat} {Q : State → Prop} {pc : Nat} {ls : Array Slot} {rest : List Value} {A : Nat → Prop} {D : va_G} {cI cJ : ClassId} {g : Nat → Nat}
theorem qc_X4_numbers_X5_powers {ad : Nat → Nat} {x : IS} {j : JS} {index : Nat} {sp dp n : Int32} (hM : q_M p m c cc nL s args own D cI cJ A g) (hP : va_P D vwCl (q_WX cI cJ ad x j) H) (hD : va_D A (q_WX cI cJ ad x j)) (hS : va_S A s.heap H locs) (hlk : Cond.methodLink own index arraycopyName ∈ lw_big) (hg : ¬ sp < 0 ∧ ¬ dp < 0 ∧ ¬ n < 0 ∧ sp.toNatClampNeg + n.toNatClampNeg ≤ 48 ∧ dp.toNatClampNeg + n.toNatClampNeg ≤ 48) (hsz : ls.size = nL) (hR : 1 ≤ R.frames ∧ (rest.map fun v => v.category).sum + (nativeFrameWords "java/lang/System" "arraycopy" 5 + 11) ≤ R.locals) (hdg : decode cc pc = .ok (.invokestatic index, 3)) (kk : ∀ (x1 : IS) (H1 : Heap) (locs1 : List Loc), x1 = q_up x 3 (va_cpy (x 1) (x 3) sp.toNatClampNeg dp.toNatClampNeg n.toNatClampNeg) → va_P D vwCl (q_WX cI cJ ad x1 j) H1 → va_D A (q_WX cI cJ ad x1 j) → va_S A s.heap H1 locs1 → W p l e R s m args below meth c H1 locs1 cells slots Q (F0 m (pc + 3) ls rest)) : W p l e R s m args below meth c H locs cells slots Q (F0 m pc ls (.int n :: .int dp :: .ref (ad 9) :: .int sp :: .ref (ad 8) :: rest)) := va_copyi hM.1.1 hM.1.2.1 (hM.1.2.2.1.trans hsz.symm) hM.1.2.2.2.1 (hM.1.2.2.2.2 _ hlk) (hM.1.2.2.2.2 _ nv_arraycopyName) (hM.1.2.2.2.2 _ st_arraycopyName) (hM.1.2.2.2.2 _ in_J10) hM.2.1 hP hD hS 8 9 0 0 (ty := .int) rfl rfl rfl rfl rfl hg.1 hg.2.1 hg.2.2.1 hg.2.2.2.1 hg.2.2.2.2 (fun _ _ => rfl) hR.1 hR.2 hdg (fun H1 locs1 h1 h2 h3 => kk _ H1 locs1 rfl h1 h2 h3)
theorem qc_X4_numbers_X5_look {ad : Nat → Nat} {x : IS} {j : JS} {index : Nat} {sp dp n : Int32} (hM : q_M p m c cc nL s args own D cI cJ A g) (hP : va_P D vwCl (q_WX cI cJ ad x j) H) (hD : va_D A (q_WX cI cJ ad x j)) (hS : va_S A s.heap H locs) (hlk : Cond.methodLink own index arraycopyName ∈ lw_big) (hg : ¬ sp < 0 ∧ ¬ dp < 0 ∧ ¬ n < 0 ∧ sp.toNatClampNeg + n.toNatClampNeg ≤ 48 ∧ dp.toNatClampNeg + n.toNatClampNeg ≤ 5) (hsz : ls.size = nL) (hR : 1 ≤ R.frames ∧ (rest.map fun v => v.category).sum + (nativeFrameWords "java/lang/System" "arraycopy" 5 + 11) ≤ R.locals) (hdg : decode cc pc = .ok (.invokestatic index, 3)) (kk : ∀ (x1 : IS) (H1 : Heap) (locs1 : List Loc), x1 = q_up x 4 (va_cpy (x 1) (x 4) sp.toNatClampNeg dp.toNatClampNeg n.toNatClampNeg) → va_P D vwCl (q_WX cI cJ ad x1 j) H1 → va_D A (q_WX cI cJ ad x1 j) → va_S A s.heap H1 locs1 → W p l e R s m args below meth c H1 locs1 cells slots Q (F0 m (pc + 3) ls rest)) : W p l e R s m args below meth c H locs cells slots Q (F0 m pc ls (.int n :: .int dp :: .ref (ad 10) :: .int sp :: .ref (ad 8) :: rest)) := va_copyi hM.1.1 hM.1.2.1 (hM.1.2.2.1.trans hsz.symm) hM.1.2.2.2.1 (hM.1.2.2.2.2 _ hlk) (hM.1.2.2.2.2 _ nv_arraycopyName) (hM.1.2.2.2.2 _ st_arraycopyName) (hM.1.2.2.2.2 _ in_J10) hM.2.1 hP hD hS 8 10 0 0 (ty := .int) rfl rfl rfl rfl rfl hg.1 hg.2.1 hg.2.2.1 hg.2.2.2.1 hg.2.2.2.2 (fun _ _ => rfl) hR.1 hR.2 hdg (fun H1 locs1 h1 h2 h3 => kk _ H1 locs1 rfl h1 h2 h3)
theorem qc_X4_numbers_X5_weights {ad : Nat → Nat} {x : IS} {j : JS} {index : Nat} {sp dp n : Int32} (hM : q_M p m c cc nL s args own D cI cJ A g) (hP : va_P D vwCl (q_WX cI cJ ad x j) H) (hD : va_D A (q_WX cI cJ ad x j)) (hS : va_S A s.heap H locs) (hlk : Cond.methodLink own index arraycopyName ∈ lw_big) (hg : ¬ sp < 0 ∧ ¬ dp < 0 ∧ ¬ n < 0 ∧ sp.toNatClampNeg + n.toNatClampNeg ≤ 48 ∧ dp.toNatClampNeg + n.toNatClampNeg ≤ 8) (hsz : ls.size = nL) (hR : 1 ≤ R.frames ∧ (rest.map fun v => v.category).sum + (nativeFrameWords "java/lang/System" "arraycopy" 5 + 11) ≤ R.locals) (hdg : decode cc pc = .ok (.invokestatic index, 3)) (kk : ∀ (x1 : IS) (H1 : Heap) (locs1 : List Loc), x1 = q_up x 5 (va_cpy (x 1) (x 5) sp.toNatClampNeg dp.toNatClampNeg n.toNatClampNeg) → va_P D vwCl (q_WX cI cJ ad x1 j) H1 → va_D A (q_WX cI cJ ad x1 j) → va_S A s.heap H1 locs1 → W p l e R s m args below meth c H1 locs1 cells slots Q (F0 m (pc + 3) ls rest)) : W p l e R s m args below meth c H locs cells slots Q (F0 m pc ls (.int n :: .int dp :: .ref (ad 11) :: .int sp :: .ref (ad 8) :: rest)) := va_copyi hM.1.1 hM.1.2.1 (hM.1.2.2.1.trans hsz.symm) hM.1.2.2.2.1 (hM.1.2.2.2.2 _ hlk) (hM.1.2.2.2.2 _ nv_arraycopyName) (hM.1.2.2.2.2 _ st_arraycopyName) (hM.1.2.2.2.2 _ in_J10) hM.2.1 hP hD hS 8 11 0 0 (ty := .int) rfl rfl rfl rfl rfl hg.1 hg.2.1 hg.2.2.1 hg.2.2.2.1 hg.2.2.2.2 (fun _ _ => rfl) hR.1 hR.2 hdg (fun H1 locs1 h1 h2 h3 => kk _ H1 locs1 rfl h1 h2 h3)
theorem qc_LOOK_WITHOUT_X5_look {ad : Nat → Nat} {x : IS} {j : JS} {index : Nat} {sp dp n : Int32} (hM : q_M p m c cc nL s args own D cI cJ A g) (hP : va_P D vwCl (q_WX cI cJ ad x j) H) (hD : va_D A (q_WX cI cJ ad x j)) (hS : va_S A s.heap H locs) (hlk : Cond.methodLink own index arraycopyName ∈ lw_big) (hg : ¬ sp < 0 ∧ ¬ dp < 0 ∧ ¬ n < 0 ∧ sp.toNatClampNeg + n.toNatClampNeg ≤ 5 ∧ dp.toNatClampNeg + n.toNatClampNeg ≤ 5) (hsz : ls.size = nL) (hR : 1 ≤ R.frames ∧ (rest.map fun v => v.category).sum + (nativeFrameWords "java/lang/System" "arraycopy" 5 + 11) ≤ R.locals) (hdg : decode cc pc = .ok (.invokestatic index, 3)) (kk : ∀ (x1 : IS) (H1 : Heap) (locs1 : List Loc), x1 = q_up x 4 (va_cpy q_LW (x 4) sp.toNatClampNeg dp.toNatClampNeg n.toNatClampNeg) → va_P D vwCl (q_WX cI cJ ad x1 j) H1 → va_D A (q_WX cI cJ ad x1 j) → va_S A s.heap H1 locs1 → W p l e R s m args below meth c H1 locs1 cells slots Q (F0 m (pc + 3) ls rest)) : W p l e R s m args below meth c H locs cells slots Q (F0 m pc ls (.int n :: .int dp :: .ref (ad 10) :: .int sp :: .ref (g 0) :: rest)) := q_copyt hM.1.1 hM.1.2.1 (hM.1.2.2.1.trans hsz.symm) hM.1.2.2.2.1 (hM.1.2.2.2.2 _ hlk) (hM.1.2.2.2.2 _ nv_arraycopyName) (hM.1.2.2.2.2 _ st_arraycopyName) (hM.1.2.2.2.2 _ in_J10) hM.2.1 hP hD hS hM.2.2.2.2.2.1.2 10 0 rfl rfl hg.1 hg.2.1 hg.2.2.1 hg.2.2.2.1 hg.2.2.2.2 hR.1 hR.2 hdg (fun H1 locs1 h1 h2 h3 => kk _ H1 locs1 rfl h1 h2 h3)
theorem qc_DICE_WITHOUT_X5_weights {ad : Nat → Nat} {x : IS} {j : JS} {index : Nat} {sp dp n : Int32} (hM : q_M p m c cc nL s args own D cI cJ A g) (hP : va_P D vwCl (q_WX cI cJ ad x j) H) (hD : va_D A (q_WX cI cJ ad x j)) (hS : va_S A s.heap H locs) (hlk : Cond.methodLink own index arraycopyName ∈ lw_big) (hg : ¬ sp < 0 ∧ ¬ dp < 0 ∧ ¬ n < 0 ∧ sp.toNatClampNeg + n.toNatClampNeg ≤ 8 ∧ dp.toNatClampNeg + n.toNatClampNeg ≤ 8) (hsz : ls.size = nL) (hR : 1 ≤ R.frames ∧ (rest.map fun v => v.category).sum + (nativeFrameWords "java/lang/System" "arraycopy" 5 + 11) ≤ R.locals) (hdg : decode cc pc = .ok (.invokestatic index, 3)) (kk : ∀ (x1 : IS) (H1 : Heap) (locs1 : List Loc), x1 = q_up x 5 (va_cpy q_DW (x 5) sp.toNatClampNeg dp.toNatClampNeg n.toNatClampNeg) → va_P D vwCl (q_WX cI cJ ad x1 j) H1 → va_D A (q_WX cI cJ ad x1 j) → va_S A s.heap H1 locs1 → W p l e R s m args below meth c H1 locs1 cells slots Q (F0 m (pc + 3) ls rest)) : W p l e R s m args below meth c H locs cells slots Q (F0 m pc ls (.int n :: .int dp :: .ref (ad 11) :: .int sp :: .ref (g 1) :: rest)) := q_copyt hM.1.1 hM.1.2.1 (hM.1.2.2.1.trans hsz.symm) hM.1.2.2.2.1 (hM.1.2.2.2.2 _ hlk) (hM.1.2.2.2.2 _ nv_arraycopyName) (hM.1.2.2.2.2 _ st_arraycopyName) (hM.1.2.2.2.2 _ in_J10) hM.2.1 hP hD hS hM.2.2.2.2.2.2.1.2 11 0 rfl rfl hg.1 hg.2.1 hg.2.2.1 hg.2.2.2.1 hg.2.2.2.2 hR.1 hR.2 hdg (fun H1 locs1 h1 h2 h3 => kk _ H1 locs1 rfl h1 h2 h3)
theorem qc_FIRST_CELLS_X5_powers {ad : Nat → Nat} {x : IS} {j : JS} {index : Nat} {sp dp n : Int32} (hM : q_M p m c cc nL s args own D cI cJ A g) (hP : va_P D vwCl (q_WX cI cJ ad x j) H) (hD : va_D A (q_WX cI cJ ad x j)) (hS : va_S A s.heap H locs) (hlk : Cond.methodLink own index arraycopyName ∈ lw_big) (hg : ¬ sp < 0 ∧ ¬ dp < 0 ∧ ¬ n < 0 ∧ sp.toNatClampNeg + n.toNatClampNeg ≤ 20 ∧ dp.toNatClampNeg + n.toNatClampNeg ≤ 48) (hsz : ls.size = nL) (hR : 1 ≤ R.frames ∧ (rest.map fun v => v.category).sum + (nativeFrameWords "java/lang/System" "arraycopy" 5 + 11) ≤ R.locals) (hdg : decode cc pc = .ok (.invokestatic index, 3)) (kk : ∀ (x1 : IS) (H1 : Heap) (locs1 : List Loc), x1 = q_up x 3 (va_cpy q_FC (x 3) sp.toNatClampNeg dp.toNatClampNeg n.toNatClampNeg) → va_P D vwCl (q_WX cI cJ ad x1 j) H1 → va_D A (q_WX cI cJ ad x1 j) → va_S A s.heap H1 locs1 → W p l e R s m args below meth c H1 locs1 cells slots Q (F0 m (pc + 3) ls rest)) : W p l e R s m args below meth c H locs cells slots Q (F0 m pc ls (.int n :: .int dp :: .ref (ad 9) :: .int sp :: .ref (g 2) :: rest)) := q_copyt hM.1.1 hM.1.2.1 (hM.1.2.2.1.trans hsz.symm) hM.1.2.2.2.1 (hM.1.2.2.2.2 _ hlk) (hM.1.2.2.2.2 _ nv_arraycopyName) (hM.1.2.2.2.2 _ st_arraycopyName) (hM.1.2.2.2.2 _ in_J10) hM.2.1 hP hD hS hM.2.2.2.2.2.2.2.1.2 9 0 rfl rfl hg.1 hg.2.1 hg.2.2.1 hg.2.2.2.1 hg.2.2.2.2 hR.1 hR.2 hdg (fun H1 locs1 h1 h2 h3 => kk _ H1 locs1 rfl h1 h2 h3)
theorem qc_X5_powers_X3_powers {ad : Nat → Nat} {x : IS} {j : JS} {index : Nat} {sp dp n : Int32} (hM : q_M p m c cc nL s args own D cI cJ A g) (hP : va_P D vwCl (q_WX cI cJ ad x j) H) (hD : va_D A (q_WX cI cJ ad x j)) (hS : va_S A s.heap H locs) (hlk : Cond.methodLink own index arraycopyName ∈ lw_big) (hg : ¬ sp < 0 ∧ ¬ dp < 0 ∧ ¬ n < 0 ∧ sp.toNatClampNeg + n.toNatClampNeg ≤ 48 ∧ dp.toNatClampNeg + n.toNatClampNeg ≤ 48) (hsz : ls.size = nL) (hR : 1 ≤ R.frames ∧ (rest.map fun v => v.category).sum + (nativeFrameWords "java/lang/System" "arraycopy" 5 + 11) ≤ R.locals) (hdg : decode cc pc = .ok (.invokestatic index, 3)) (kk : ∀ (x1 : IS) (H1 : Heap) (locs1 : List Loc), x1 = q_up x 8 (va_cpy (x 3) (x 8) sp.toNatClampNeg dp.toNatClampNeg n.toNatClampNeg) → va_P D vwCl (q_WX cI cJ ad x1 j) H1 → va_D A (q_WX cI cJ ad x1 j) → va_S A s.heap H1 locs1 → W p l e R s m args below meth c H1 locs1 cells slots Q (F0 m (pc + 3) ls rest)) : W p l e R s m args below meth c H locs cells slots Q (F0 m pc ls (.int n :: .int dp :: .ref (ad 12) :: .int sp :: .ref (ad 9) :: rest)) := va_copyi hM.1.1 hM.1.2.1 (hM.1.2.2.1.trans hsz.symm) hM.1.2.2.2.1 (hM.1.2.2.2.2 _ hlk) (hM.1.2.2.2.2 _ nv_arraycopyName) (hM.1.2.2.2.2 _ st_arraycopyName) (hM.1.2.2.2.2 _ in_J10) hM.2.1 hP hD hS 9 12 0 0 (ty := .int) rfl rfl rfl rfl rfl hg.1 hg.2.1 hg.2.2.1 hg.2.2.2.1 hg.2.2.2.2 (fun _ _ => rfl) hR.1 hR.2 hdg (fun H1 locs1 h1 h2 h3 => kk _ H1 locs1 rfl h1 h2 h3)
theorem qc_X5_look_X3_look {ad : Nat → Nat} {x : IS} {j : JS} {index : Nat} {sp dp n : Int32} (hM : q_M p m c cc nL s args own D cI cJ A g) (hP : va_P D vwCl (q_WX cI cJ ad x j) H) (hD : va_D A (q_WX cI cJ ad x j)) (hS : va_S A s.heap H locs) (hlk : Cond.methodLink own index arraycopyName ∈ lw_big) (hg : ¬ sp < 0 ∧ ¬ dp < 0 ∧ ¬ n < 0 ∧ sp.toNatClampNeg + n.toNatClampNeg ≤ 5 ∧ dp.toNatClampNeg + n.toNatClampNeg ≤ 5) (hsz : ls.size = nL) (hR : 1 ≤ R.frames ∧ (rest.map fun v => v.category).sum + (nativeFrameWords "java/lang/System" "arraycopy" 5 + 11) ≤ R.locals) (hdg : decode cc pc = .ok (.invokestatic index, 3)) (kk : ∀ (x1 : IS) (H1 : Heap) (locs1 : List Loc), x1 = q_up x 10 (va_cpy (x 4) (x 10) sp.toNatClampNeg dp.toNatClampNeg n.toNatClampNeg) → va_P D vwCl (q_WX cI cJ ad x1 j) H1 → va_D A (q_WX cI cJ ad x1 j) → va_S A s.heap H1 locs1 → W p l e R s m args below meth c H1 locs1 cells slots Q (F0 m (pc + 3) ls rest)) : W p l e R s m args below meth c H locs cells slots Q (F0 m pc ls (.int n :: .int dp :: .ref (ad 14) :: .int sp :: .ref (ad 10) :: rest)) := va_copyi hM.1.1 hM.1.2.1 (hM.1.2.2.1.trans hsz.symm) hM.1.2.2.2.1 (hM.1.2.2.2.2 _ hlk) (hM.1.2.2.2.2 _ nv_arraycopyName) (hM.1.2.2.2.2 _ st_arraycopyName) (hM.1.2.2.2.2 _ in_J10) hM.2.1 hP hD hS 10 14 0 0 (ty := .int) rfl rfl rfl rfl rfl hg.1 hg.2.1 hg.2.2.1 hg.2.2.2.1 hg.2.2.2.2 (fun _ _ => rfl) hR.1 hR.2 hdg (fun H1 locs1 h1 h2 h3 => kk _ H1 locs1 rfl h1 h2 h3)
theorem qc_X3_powers_X3_powers {ad : Nat → Nat} {x : IS} {j : JS} {index : Nat} {sp dp n : Int32} (hM : q_M p m c cc nL s args own D cI cJ A g) (hP : va_P D vwCl (q_WX cI cJ ad x j) H) (hD : va_D A (q_WX cI cJ ad x j)) (hS : va_S A s.heap H locs) (hlk : Cond.methodLink own index arraycopyName ∈ lw_big) (hg : ¬ sp < 0 ∧ ¬ dp < 0 ∧ ¬ n < 0 ∧ sp.toNatClampNeg + n.toNatClampNeg ≤ 48 ∧ dp.toNatClampNeg + n.toNatClampNeg ≤ 48) (hsz : ls.size = nL) (hR : 1 ≤ R.frames ∧ (rest.map fun v => v.category).sum + (nativeFrameWords "java/lang/System" "arraycopy" 5 + 11) ≤ R.locals) (hdg : decode cc pc = .ok (.invokestatic index, 3)) (kk : ∀ (x1 : IS) (H1 : Heap) (locs1 : List Loc), x1 = q_up x 8 (va_cpy (x 8) (x 8) sp.toNatClampNeg dp.toNatClampNeg n.toNatClampNeg) → va_P D vwCl (q_WX cI cJ ad x1 j) H1 → va_D A (q_WX cI cJ ad x1 j) → va_S A s.heap H1 locs1 → W p l e R s m args below meth c H1 locs1 cells slots Q (F0 m (pc + 3) ls rest)) : W p l e R s m args below meth c H locs cells slots Q (F0 m pc ls (.int n :: .int dp :: .ref (ad 12) :: .int sp :: .ref (ad 12) :: rest)) := va_copyi hM.1.1 hM.1.2.1 (hM.1.2.2.1.trans hsz.symm) hM.1.2.2.2.1 (hM.1.2.2.2.2 _ hlk) (hM.1.2.2.2.2 _ nv_arraycopyName) (hM.1.2.2.2.2 _ st_arraycopyName) (hM.1.2.2.2.2 _ in_J10) hM.2.1 hP hD hS 12 12 0 0 (ty := .int) rfl rfl rfl rfl rfl hg.1 hg.2.1 hg.2.2.1 hg.2.2.2.1 hg.2.2.2.2 (fun _ _ => rfl) hR.1 hR.2 hdg (fun H1 locs1 h1 h2 h3 => kk _ H1 locs1 rfl h1 h2 h3)
theorem qc_X3_left_X3_left {ad : Nat → Nat} {x : IS} {j : JS} {index : Nat} {sp dp n : Int32} (hM : q_M p m c cc nL s args own D cI cJ A g) (hP : va_P D vwCl (q_WX cI cJ ad x j) H) (hD : va_D A (q_WX cI cJ ad x j)) (hS : va_S A s.heap H locs) (hlk : Cond.methodLink own index arraycopyName ∈ lw_big) (hg : ¬ sp < 0 ∧ ¬ dp < 0 ∧ ¬ n < 0 ∧ sp.toNatClampNeg + n.toNatClampNeg ≤ 48 ∧ dp.toNatClampNeg + n.toNatClampNeg ≤ 48) (hsz : ls.size = nL) (hR : 1 ≤ R.frames ∧ (rest.map fun v => v.category).sum + (nativeFrameWords "java/lang/System" "arraycopy" 5 + 11) ≤ R.locals) (hdg : decode cc pc = .ok (.invokestatic index, 3)) (kk : ∀ (x1 : IS) (H1 : Heap) (locs1 : List Loc), x1 = q_up x 9 (va_cpy (x 9) (x 9) sp.toNatClampNeg dp.toNatClampNeg n.toNatClampNeg) → va_P D vwCl (q_WX cI cJ ad x1 j) H1 → va_D A (q_WX cI cJ ad x1 j) → va_S A s.heap H1 locs1 → W p l e R s m args below meth c H1 locs1 cells slots Q (F0 m (pc + 3) ls rest)) : W p l e R s m args below meth c H locs cells slots Q (F0 m pc ls (.int n :: .int dp :: .ref (ad 13) :: .int sp :: .ref (ad 13) :: rest)) := va_copyi hM.1.1 hM.1.2.1 (hM.1.2.2.1.trans hsz.symm) hM.1.2.2.2.1 (hM.1.2.2.2.2 _ hlk) (hM.1.2.2.2.2 _ nv_arraycopyName) (hM.1.2.2.2.2 _ st_arraycopyName) (hM.1.2.2.2.2 _ in_J10) hM.2.1 hP hD hS 13 13 0 0 (ty := .int) rfl rfl rfl rfl rfl hg.1 hg.2.1 hg.2.2.1 hg.2.2.2.1 hg.2.2.2.2 (fun _ _ => rfl) hR.1 hR.2 hdg (fun H1 locs1 h1 h2 h3 => kk _ H1 locs1 rfl h1 h2 h3)
theorem qc_X2_kinds_X2_kinds {ad : Nat → Nat} {x : IS} {j : JS} {index : Nat} {sp dp n : Int32} (hM : q_M p m c cc nL s args own D cI cJ A g) (hP : va_P D vwCl (q_WX cI cJ ad x j) H) (hD : va_D A (q_WX cI cJ ad x j)) (hS : va_S A s.heap H locs) (hlk : Cond.methodLink own index arraycopyName ∈ lw_big) (hg : ¬ sp < 0 ∧ ¬ dp < 0 ∧ ¬ n < 0 ∧ sp.toNatClampNeg + n.toNatClampNeg ≤ 6 ∧ dp.toNatClampNeg + n.toNatClampNeg ≤ 6) (hsz : ls.size = nL) (hR : 1 ≤ R.frames ∧ (rest.map fun v => v.category).sum + (nativeFrameWords "java/lang/System" "arraycopy" 5 + 11) ≤ R.locals) (hdg : decode cc pc = .ok (.invokestatic index, 3)) (kk : ∀ (x1 : IS) (H1 : Heap) (locs1 : List Loc), x1 = q_up x 25 (va_cpy (x 25) (x 25) sp.toNatClampNeg dp.toNatClampNeg n.toNatClampNeg) → va_P D vwCl (q_WX cI cJ ad x1 j) H1 → va_D A (q_WX cI cJ ad x1 j) → va_S A s.heap H1 locs1 → W p l e R s m args below meth c H1 locs1 cells slots Q (F0 m (pc + 3) ls rest)) : W p l e R s m args below meth c H locs cells slots Q (F0 m pc ls (.int n :: .int dp :: .ref (ad 24) :: .int sp :: .ref (ad 24) :: rest)) := va_copyi hM.1.1 hM.1.2.1 (hM.1.2.2.1.trans hsz.symm) hM.1.2.2.2.1 (hM.1.2.2.2.2 _ hlk) (hM.1.2.2.2.2 _ nv_arraycopyName) (hM.1.2.2.2.2 _ st_arraycopyName) (hM.1.2.2.2.2 _ in_J10) hM.2.1 hP hD hS 24 24 0 0 (ty := .int) rfl rfl rfl rfl rfl hg.1 hg.2.1 hg.2.2.1 hg.2.2.2.1 hg.2.2.2.2 (fun _ _ => rfl) hR.1 hR.2 hdg (fun H1 locs1 h1 h2 h3 => kk _ H1 locs1 rfl h1 h2 h3)
theorem qc_X2_places_X2_places {ad : Nat → Nat} {x : IS} {j : JS} {index : Nat} {sp dp n : Int32} (hM : q_M p m c cc nL s args own D cI cJ A g) (hP : va_P D vwCl (q_WX cI cJ ad x j) H) (hD : va_D A (q_WX cI cJ ad x j)) (hS : va_S A s.heap H locs) (hlk : Cond.methodLink own index arraycopyName ∈ lw_big) (hg : ¬ sp < 0 ∧ ¬ dp < 0 ∧ ¬ n < 0 ∧ sp.toNatClampNeg + n.toNatClampNeg ≤ 6 ∧ dp.toNatClampNeg + n.toNatClampNeg ≤ 6) (hsz : ls.size = nL) (hR : 1 ≤ R.frames ∧ (rest.map fun v => v.category).sum + (nativeFrameWords "java/lang/System" "arraycopy" 5 + 11) ≤ R.locals) (hdg : decode cc pc = .ok (.invokestatic index, 3)) (kk : ∀ (x1 : IS) (H1 : Heap) (locs1 : List Loc), x1 = q_up x 26 (va_cpy (x 26) (x 26) sp.toNatClampNeg dp.toNatClampNeg n.toNatClampNeg) → va_P D vwCl (q_WX cI cJ ad x1 j) H1 → va_D A (q_WX cI cJ ad x1 j) → va_S A s.heap H1 locs1 → W p l e R s m args below meth c H1 locs1 cells slots Q (F0 m (pc + 3) ls rest)) : W p l e R s m args below meth c H locs cells slots Q (F0 m pc ls (.int n :: .int dp :: .ref (ad 25) :: .int sp :: .ref (ad 25) :: rest)) := va_copyi hM.1.1 hM.1.2.1 (hM.1.2.2.1.trans hsz.symm) hM.1.2.2.2.1 (hM.1.2.2.2.2 _ hlk) (hM.1.2.2.2.2 _ nv_arraycopyName) (hM.1.2.2.2.2 _ st_arraycopyName) (hM.1.2.2.2.2 _ in_J10) hM.2.1 hP hD hS 25 25 0 0 (ty := .int) rfl rfl rfl rfl rfl hg.1 hg.2.1 hg.2.2.1 hg.2.2.2.1 hg.2.2.2.2 (fun _ _ => rfl) hR.1 hR.2 hdg (fun H1 locs1 h1 h2 h3 => kk _ H1 locs1 rfl h1 h2 h3)
theorem qc_X2_values_X2_values {ad : Nat → Nat} {x : IS} {j : JS} {index : Nat} {sp dp n : Int32} (hM : q_M p m c cc nL s args own D cI cJ A g) (hP : va_P D vwCl (q_WX cI cJ ad x j) H) (hD : va_D A (q_WX cI cJ ad x j)) (hS : va_S A s.heap H locs) (hlk : Cond.methodLink own index arraycopyName ∈ lw_big) (hg : ¬ sp < 0 ∧ ¬ dp < 0 ∧ ¬ n < 0 ∧ sp.toNatClampNeg + n.toNatClampNeg ≤ 6 ∧ dp.toNatClampNeg + n.toNatClampNeg ≤ 6) (hsz : ls.size = nL) (hR : 1 ≤ R.frames ∧ (rest.map fun v => v.category).sum + (nativeFrameWords "java/lang/System" "arraycopy" 5 + 11) ≤ R.locals) (hdg : decode cc pc = .ok (.invokestatic index, 3)) (kk : ∀ (x1 : IS) (H1 : Heap) (locs1 : List Loc), x1 = q_up x 27 (va_cpy (x 27) (x 27) sp.toNatClampNeg dp.toNatClampNeg n.toNatClampNeg) → va_P D vwCl (q_WX cI cJ ad x1 j) H1 → va_D A (q_WX cI cJ ad x1 j) → va_S A s.heap H1 locs1 → W p l e R s m args below meth c H1 locs1 cells slots Q (F0 m (pc + 3) ls rest)) : W p l e R s m args below meth c H locs cells slots Q (F0 m pc ls (.int n :: .int dp :: .ref (ad 26) :: .int sp :: .ref (ad 26) :: rest)) := va_copyi hM.1.1 hM.1.2.1 (hM.1.2.2.1.trans hsz.symm) hM.1.2.2.2.1 (hM.1.2.2.2.2 _ hlk) (hM.1.2.2.2.2 _ nv_arraycopyName) (hM.1.2.2.2.2 _ st_arraycopyName) (hM.1.2.2.2.2 _ in_J10) hM.2.1 hP hD hS 26 26 0 0 (ty := .int) rfl rfl rfl rfl rfl hg.1 hg.2.1 hg.2.2.1 hg.2.2.2.1 hg.2.2.2.2 (fun _ _ => rfl) hR.1 hR.2 hdg (fun H1 locs1 h1 h2 h3 => kk _ H1 locs1 rfl h1 h2 h3)
end
end
section
theorem zz_look : True := trivial
end
