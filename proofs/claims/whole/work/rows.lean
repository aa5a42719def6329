section
-- ===== PART A: goes FIRST, ahead of the names: the tables' words, and 'selects' of the private methods out of them =====
/-- a private method of a class that the tables say can be made, by its rows of tables_1 -/
def lw_okq (q : MethodName × Nat) : Prop := (q.1.cls ≠ "java/lang/invoke/MethodHandle" ∧ q.1.cls ≠ "java/lang/invoke/VarHandle") ∧ Cond.instantiable q.1.cls q.2 ∈ tables_1 ∧ Cond.privateMethod q.1 ∈ tables_1 ∧ Cond.instanceMethod q.1 ∈ tables_1
theorem lw_p0 : lw_okq (⟨"HangWatch$Reader", "scan", "(LHangWatch$Tape;)V"⟩, 11) := ⟨⟨by decide +kernel, by decide +kernel⟩, List.mem_of_getElem? (i := 231) (by decide +kernel), List.mem_of_getElem? (i := 402) (by decide +kernel), List.mem_of_getElem? (i := 403) (by decide +kernel)⟩
theorem lw_p1 : lw_okq (⟨"HangWatch$Reader", "scanWord", "(LHangWatch$Tape;)V"⟩, 11) := ⟨⟨by decide +kernel, by decide +kernel⟩, List.mem_of_getElem? (i := 231) (by decide +kernel), List.mem_of_getElem? (i := 416) (by decide +kernel), List.mem_of_getElem? (i := 417) (by decide +kernel)⟩
theorem lw_p2 : lw_okq (⟨"HangWatch$Reader", "isWord", "(LHangWatch$Tape;I)Z"⟩, 11) := ⟨⟨by decide +kernel, by decide +kernel⟩, List.mem_of_getElem? (i := 231) (by decide +kernel), List.mem_of_getElem? (i := 420) (by decide +kernel), List.mem_of_getElem? (i := 421) (by decide +kernel)⟩
theorem lw_p3 : lw_okq (⟨"HangWatch$Reader", "scanNumber", "(LHangWatch$Tape;)V"⟩, 11) := ⟨⟨by decide +kernel, by decide +kernel⟩, List.mem_of_getElem? (i := 231) (by decide +kernel), List.mem_of_getElem? (i := 476) (by decide +kernel), List.mem_of_getElem? (i := 477) (by decide +kernel)⟩
theorem lw_p4 : lw_okq (⟨"HangWatch$Reader", "follow", "(I)I"⟩, 11) := ⟨⟨by decide +kernel, by decide +kernel⟩, List.mem_of_getElem? (i := 231) (by decide +kernel), List.mem_of_getElem? (i := 480) (by decide +kernel), List.mem_of_getElem? (i := 481) (by decide +kernel)⟩
theorem lw_p5 : lw_okq (⟨"HangWatch$Reader", "openLine", "()I"⟩, 11) := ⟨⟨by decide +kernel, by decide +kernel⟩, List.mem_of_getElem? (i := 231) (by decide +kernel), List.mem_of_getElem? (i := 484) (by decide +kernel), List.mem_of_getElem? (i := 485) (by decide +kernel)⟩
theorem lw_p6 : lw_okq (⟨"HangWatch$Reader", "note", "(I)V"⟩, 11) := ⟨⟨by decide +kernel, by decide +kernel⟩, List.mem_of_getElem? (i := 231) (by decide +kernel), List.mem_of_getElem? (i := 492) (by decide +kernel), List.mem_of_getElem? (i := 493) (by decide +kernel)⟩
theorem lw_p7 : lw_okq (⟨"HangWatch$Reader", "openStep", "()I"⟩, 11) := ⟨⟨by decide +kernel, by decide +kernel⟩, List.mem_of_getElem? (i := 231) (by decide +kernel), List.mem_of_getElem? (i := 496) (by decide +kernel), List.mem_of_getElem? (i := 497) (by decide +kernel)⟩
theorem lw_p8 : lw_okq (⟨"HangWatch$Reader", "takeNumber", "()I"⟩, 11) := ⟨⟨by decide +kernel, by decide +kernel⟩, List.mem_of_getElem? (i := 231) (by decide +kernel), List.mem_of_getElem? (i := 504) (by decide +kernel), List.mem_of_getElem? (i := 505) (by decide +kernel)⟩
theorem lw_p9 : lw_okq (⟨"HangWatch$Reader", "seekStrangers", "()V"⟩, 11) := ⟨⟨by decide +kernel, by decide +kernel⟩, List.mem_of_getElem? (i := 231) (by decide +kernel), List.mem_of_getElem? (i := 518) (by decide +kernel), List.mem_of_getElem? (i := 519) (by decide +kernel)⟩
theorem lw_p10 : lw_okq (⟨"HangWatch$Plan", "reachFrom", "(II)I"⟩, 8) := ⟨⟨by decide +kernel, by decide +kernel⟩, List.mem_of_getElem? (i := 35) (by decide +kernel), List.mem_of_getElem? (i := 553) (by decide +kernel), List.mem_of_getElem? (i := 554) (by decide +kernel)⟩
theorem lw_p11 : lw_okq (⟨"HangWatch$Plan", "reachBetween", "(III)I"⟩, 8) := ⟨⟨by decide +kernel, by decide +kernel⟩, List.mem_of_getElem? (i := 35) (by decide +kernel), List.mem_of_getElem? (i := 558) (by decide +kernel), List.mem_of_getElem? (i := 559) (by decide +kernel)⟩
theorem lw_p12 : lw_okq (⟨"HangWatch", "passTick", "()I"⟩, 7) := ⟨⟨by decide +kernel, by decide +kernel⟩, List.mem_of_getElem? (i := 21) (by decide +kernel), List.mem_of_getElem? (i := 601) (by decide +kernel), List.mem_of_getElem? (i := 602) (by decide +kernel)⟩
theorem lw_p13 : lw_okq (⟨"HangWatch$Scene", "act", "(LHangWatch$Plan;I)V"⟩, 11) := ⟨⟨by decide +kernel, by decide +kernel⟩, List.mem_of_getElem? (i := 86) (by decide +kernel), List.mem_of_getElem? (i := 616) (by decide +kernel), List.mem_of_getElem? (i := 617) (by decide +kernel)⟩
theorem lw_p14 : lw_okq (⟨"HangWatch$Scene", "spend", "(LHangWatch$Plan;III)V"⟩, 11) := ⟨⟨by decide +kernel, by decide +kernel⟩, List.mem_of_getElem? (i := 86) (by decide +kernel), List.mem_of_getElem? (i := 620) (by decide +kernel), List.mem_of_getElem? (i := 621) (by decide +kernel)⟩
theorem lw_p15 : lw_okq (⟨"HangWatch$Scene", "finish", "(LHangWatch$Plan;II)V"⟩, 11) := ⟨⟨by decide +kernel, by decide +kernel⟩, List.mem_of_getElem? (i := 86) (by decide +kernel), List.mem_of_getElem? (i := 624) (by decide +kernel), List.mem_of_getElem? (i := 625) (by decide +kernel)⟩
def lw_privs_1 : List (MethodName × Nat) := [(⟨"HangWatch$Reader", "scan", "(LHangWatch$Tape;)V"⟩, 11), (⟨"HangWatch$Reader", "scanWord", "(LHangWatch$Tape;)V"⟩, 11), (⟨"HangWatch$Reader", "isWord", "(LHangWatch$Tape;I)Z"⟩, 11), (⟨"HangWatch$Reader", "scanNumber", "(LHangWatch$Tape;)V"⟩, 11), (⟨"HangWatch$Reader", "follow", "(I)I"⟩, 11), (⟨"HangWatch$Reader", "openLine", "()I"⟩, 11), (⟨"HangWatch$Reader", "note", "(I)V"⟩, 11), (⟨"HangWatch$Reader", "openStep", "()I"⟩, 11), (⟨"HangWatch$Reader", "takeNumber", "()I"⟩, 11), (⟨"HangWatch$Reader", "seekStrangers", "()V"⟩, 11), (⟨"HangWatch$Plan", "reachFrom", "(II)I"⟩, 8), (⟨"HangWatch$Plan", "reachBetween", "(III)I"⟩, 8), (⟨"HangWatch", "passTick", "()I"⟩, 7), (⟨"HangWatch$Scene", "act", "(LHangWatch$Plan;I)V"⟩, 11), (⟨"HangWatch$Scene", "spend", "(LHangWatch$Plan;III)V"⟩, 11), (⟨"HangWatch$Scene", "finish", "(LHangWatch$Plan;II)V"⟩, 11)]
theorem lw_r1 : ∀ q ∈ lw_privs_1, lw_okq q := List.forall_mem_cons.mpr ⟨lw_p0, List.forall_mem_cons.mpr ⟨lw_p1, List.forall_mem_cons.mpr ⟨lw_p2, List.forall_mem_cons.mpr ⟨lw_p3, List.forall_mem_cons.mpr ⟨lw_p4, List.forall_mem_cons.mpr ⟨lw_p5, List.forall_mem_cons.mpr ⟨lw_p6, List.forall_mem_cons.mpr ⟨lw_p7, List.forall_mem_cons.mpr ⟨lw_p8, List.forall_mem_cons.mpr ⟨lw_p9, List.forall_mem_cons.mpr ⟨lw_p10, List.forall_mem_cons.mpr ⟨lw_p11, List.forall_mem_cons.mpr ⟨lw_p12, List.forall_mem_cons.mpr ⟨lw_p13, List.forall_mem_cons.mpr ⟨lw_p14, List.forall_mem_cons.mpr ⟨lw_p15, fun _ h => absurd h List.not_mem_nil⟩⟩⟩⟩⟩⟩⟩⟩⟩⟩⟩⟩⟩⟩⟩⟩
theorem lw_p16 : lw_okq (⟨"HangWatch$Scene", "beatNow", "(I)V"⟩, 11) := ⟨⟨by decide +kernel, by decide +kernel⟩, List.mem_of_getElem? (i := 86) (by decide +kernel), List.mem_of_getElem? (i := 628) (by decide +kernel), List.mem_of_getElem? (i := 629) (by decide +kernel)⟩
theorem lw_p17 : lw_okq (⟨"HangWatch", "markStalls", "(LHangWatch$Scene;)I"⟩, 7) := ⟨⟨by decide +kernel, by decide +kernel⟩, List.mem_of_getElem? (i := 21) (by decide +kernel), List.mem_of_getElem? (i := 636) (by decide +kernel), List.mem_of_getElem? (i := 637) (by decide +kernel)⟩
theorem lw_p18 : lw_okq (⟨"HangWatch$View", "waitsOf", "(LHangWatch$Plan;LHangWatch$Scene;I)I"⟩, 13) := ⟨⟨by decide +kernel, by decide +kernel⟩, List.mem_of_getElem? (i := 276) (by decide +kernel), List.mem_of_getElem? (i := 657) (by decide +kernel), List.mem_of_getElem? (i := 658) (by decide +kernel)⟩
theorem lw_p19 : lw_okq (⟨"HangWatch$View", "whoCan", "(II)I"⟩, 13) := ⟨⟨by decide +kernel, by decide +kernel⟩, List.mem_of_getElem? (i := 276) (by decide +kernel), List.mem_of_getElem? (i := 665) (by decide +kernel), List.mem_of_getElem? (i := 666) (by decide +kernel)⟩
theorem lw_p20 : lw_okq (⟨"HangWatch$View", "spreadFreedom", "()V"⟩, 13) := ⟨⟨by decide +kernel, by decide +kernel⟩, List.mem_of_getElem? (i := 276) (by decide +kernel), List.mem_of_getElem? (i := 669) (by decide +kernel), List.mem_of_getElem? (i := 670) (by decide +kernel)⟩
theorem lw_p21 : lw_okq (⟨"HangWatch$View", "findLate", "(LHangWatch$Plan;LHangWatch$Scene;)V"⟩, 13) := ⟨⟨by decide +kernel, by decide +kernel⟩, List.mem_of_getElem? (i := 276) (by decide +kernel), List.mem_of_getElem? (i := 676) (by decide +kernel), List.mem_of_getElem? (i := 677) (by decide +kernel)⟩
theorem lw_p22 : lw_okq (⟨"HangWatch", "keepStalls", "(I)V"⟩, 7) := ⟨⟨by decide +kernel, by decide +kernel⟩, List.mem_of_getElem? (i := 21) (by decide +kernel), List.mem_of_getElem? (i := 706) (by decide +kernel), List.mem_of_getElem? (i := 707) (by decide +kernel)⟩
theorem lw_p23 : lw_okq (⟨"HangWatch$Trial", "isBetter", "(LHangWatch$Scene;II)Z"⟩, 3) := ⟨⟨by decide +kernel, by decide +kernel⟩, List.mem_of_getElem? (i := 333) (by decide +kernel), List.mem_of_getElem? (i := 715) (by decide +kernel), List.mem_of_getElem? (i := 716) (by decide +kernel)⟩
theorem lw_p24 : lw_okq (⟨"HangWatch", "lookNow", "()V"⟩, 7) := ⟨⟨by decide +kernel, by decide +kernel⟩, List.mem_of_getElem? (i := 21) (by decide +kernel), List.mem_of_getElem? (i := 742) (by decide +kernel), List.mem_of_getElem? (i := 743) (by decide +kernel)⟩
theorem lw_p25 : lw_okq (⟨"HangWatch", "isWorker", "(I)Z"⟩, 7) := ⟨⟨by decide +kernel, by decide +kernel⟩, List.mem_of_getElem? (i := 21) (by decide +kernel), List.mem_of_getElem? (i := 772) (by decide +kernel), List.mem_of_getElem? (i := 773) (by decide +kernel)⟩
theorem lw_p26 : lw_okq (⟨"HangWatch", "seen", "(II)I"⟩, 7) := ⟨⟨by decide +kernel, by decide +kernel⟩, List.mem_of_getElem? (i := 21) (by decide +kernel), List.mem_of_getElem? (i := 783) (by decide +kernel), List.mem_of_getElem? (i := 784) (by decide +kernel)⟩
theorem lw_p27 : lw_okq (⟨"HangWatch$View", "pathPlace", "(I)I"⟩, 13) := ⟨⟨by decide +kernel, by decide +kernel⟩, List.mem_of_getElem? (i := 276) (by decide +kernel), List.mem_of_getElem? (i := 823) (by decide +kernel), List.mem_of_getElem? (i := 824) (by decide +kernel)⟩
theorem lw_p28 : lw_okq (⟨"HangWatch$Trial", "leavesNoneHard", "(LHangWatch$Plan;LHangWatch$Scene;I)Z"⟩, 3) := ⟨⟨by decide +kernel, by decide +kernel⟩, List.mem_of_getElem? (i := 333) (by decide +kernel), List.mem_of_getElem? (i := 865) (by decide +kernel), List.mem_of_getElem? (i := 866) (by decide +kernel)⟩
theorem lw_p29 : lw_okq (⟨"HangWatchModel", "firsts", "(I)V"⟩, 22) := ⟨⟨by decide +kernel, by decide +kernel⟩, List.mem_of_getElem? (i := 889) (by decide +kernel), List.mem_of_getElem? (i := 895) (by decide +kernel), List.mem_of_getElem? (i := 896) (by decide +kernel)⟩
theorem lw_p30 : lw_okq (⟨"HangWatchModel", "keeps", "()V"⟩, 22) := ⟨⟨by decide +kernel, by decide +kernel⟩, List.mem_of_getElem? (i := 889) (by decide +kernel), List.mem_of_getElem? (i := 974) (by decide +kernel), List.mem_of_getElem? (i := 975) (by decide +kernel)⟩
theorem lw_p31 : lw_okq (⟨"HangWatchModel", "copies", "(III)V"⟩, 22) := ⟨⟨by decide +kernel, by decide +kernel⟩, List.mem_of_getElem? (i := 889) (by decide +kernel), List.mem_of_getElem? (i := 978) (by decide +kernel), List.mem_of_getElem? (i := 979) (by decide +kernel)⟩
def lw_privs_2 : List (MethodName × Nat) := [(⟨"HangWatch$Scene", "beatNow", "(I)V"⟩, 11), (⟨"HangWatch", "markStalls", "(LHangWatch$Scene;)I"⟩, 7), (⟨"HangWatch$View", "waitsOf", "(LHangWatch$Plan;LHangWatch$Scene;I)I"⟩, 13), (⟨"HangWatch$View", "whoCan", "(II)I"⟩, 13), (⟨"HangWatch$View", "spreadFreedom", "()V"⟩, 13), (⟨"HangWatch$View", "findLate", "(LHangWatch$Plan;LHangWatch$Scene;)V"⟩, 13), (⟨"HangWatch", "keepStalls", "(I)V"⟩, 7), (⟨"HangWatch$Trial", "isBetter", "(LHangWatch$Scene;II)Z"⟩, 3), (⟨"HangWatch", "lookNow", "()V"⟩, 7), (⟨"HangWatch", "isWorker", "(I)Z"⟩, 7), (⟨"HangWatch", "seen", "(II)I"⟩, 7), (⟨"HangWatch$View", "pathPlace", "(I)I"⟩, 13), (⟨"HangWatch$Trial", "leavesNoneHard", "(LHangWatch$Plan;LHangWatch$Scene;I)Z"⟩, 3), (⟨"HangWatchModel", "firsts", "(I)V"⟩, 22), (⟨"HangWatchModel", "keeps", "()V"⟩, 22), (⟨"HangWatchModel", "copies", "(III)V"⟩, 22)]
theorem lw_r2 : ∀ q ∈ lw_privs_2, lw_okq q := List.forall_mem_cons.mpr ⟨lw_p16, List.forall_mem_cons.mpr ⟨lw_p17, List.forall_mem_cons.mpr ⟨lw_p18, List.forall_mem_cons.mpr ⟨lw_p19, List.forall_mem_cons.mpr ⟨lw_p20, List.forall_mem_cons.mpr ⟨lw_p21, List.forall_mem_cons.mpr ⟨lw_p22, List.forall_mem_cons.mpr ⟨lw_p23, List.forall_mem_cons.mpr ⟨lw_p24, List.forall_mem_cons.mpr ⟨lw_p25, List.forall_mem_cons.mpr ⟨lw_p26, List.forall_mem_cons.mpr ⟨lw_p27, List.forall_mem_cons.mpr ⟨lw_p28, List.forall_mem_cons.mpr ⟨lw_p29, List.forall_mem_cons.mpr ⟨lw_p30, List.forall_mem_cons.mpr ⟨lw_p31, fun _ h => absurd h List.not_mem_nil⟩⟩⟩⟩⟩⟩⟩⟩⟩⟩⟩⟩⟩⟩⟩⟩
theorem lw_p32 : lw_okq (⟨"HangWatchModel", "ticksOf", "(I)I"⟩, 22) := ⟨⟨by decide +kernel, by decide +kernel⟩, List.mem_of_getElem? (i := 889) (by decide +kernel), List.mem_of_getElem? (i := 982) (by decide +kernel), List.mem_of_getElem? (i := 983) (by decide +kernel)⟩
theorem lw_p33 : lw_okq (⟨"HangWatchModel", "ticksOnce", "()V"⟩, 22) := ⟨⟨by decide +kernel, by decide +kernel⟩, List.mem_of_getElem? (i := 889) (by decide +kernel), List.mem_of_getElem? (i := 986) (by decide +kernel), List.mem_of_getElem? (i := 987) (by decide +kernel)⟩
theorem lw_p34 : lw_okq (⟨"HangWatchModel", "workers", "()I"⟩, 22) := ⟨⟨by decide +kernel, by decide +kernel⟩, List.mem_of_getElem? (i := 889) (by decide +kernel), List.mem_of_getElem? (i := 990) (by decide +kernel), List.mem_of_getElem? (i := 991) (by decide +kernel)⟩
theorem lw_p35 : lw_okq (⟨"HangWatchModel", "isEnded", "(I)Z"⟩, 22) := ⟨⟨by decide +kernel, by decide +kernel⟩, List.mem_of_getElem? (i := 889) (by decide +kernel), List.mem_of_getElem? (i := 994) (by decide +kernel), List.mem_of_getElem? (i := 995) (by decide +kernel)⟩
theorem lw_p36 : lw_okq (⟨"HangWatchModel", "place", "(I)I"⟩, 22) := ⟨⟨by decide +kernel, by decide +kernel⟩, List.mem_of_getElem? (i := 889) (by decide +kernel), List.mem_of_getElem? (i := 998) (by decide +kernel), List.mem_of_getElem? (i := 999) (by decide +kernel)⟩
theorem lw_p37 : lw_okq (⟨"HangWatchModel", "does", "(I)V"⟩, 22) := ⟨⟨by decide +kernel, by decide +kernel⟩, List.mem_of_getElem? (i := 889) (by decide +kernel), List.mem_of_getElem? (i := 1002) (by decide +kernel), List.mem_of_getElem? (i := 1003) (by decide +kernel)⟩
theorem lw_p38 : lw_okq (⟨"HangWatchModel", "numberNow", "(I)I"⟩, 22) := ⟨⟨by decide +kernel, by decide +kernel⟩, List.mem_of_getElem? (i := 889) (by decide +kernel), List.mem_of_getElem? (i := 1006) (by decide +kernel), List.mem_of_getElem? (i := 1007) (by decide +kernel)⟩
theorem lw_p39 : lw_okq (⟨"HangWatchModel", "number", "(II)I"⟩, 22) := ⟨⟨by decide +kernel, by decide +kernel⟩, List.mem_of_getElem? (i := 889) (by decide +kernel), List.mem_of_getElem? (i := 1010) (by decide +kernel), List.mem_of_getElem? (i := 1011) (by decide +kernel)⟩
theorem lw_p40 : lw_okq (⟨"HangWatchModel", "sortNow", "(I)I"⟩, 22) := ⟨⟨by decide +kernel, by decide +kernel⟩, List.mem_of_getElem? (i := 889) (by decide +kernel), List.mem_of_getElem? (i := 1014) (by decide +kernel), List.mem_of_getElem? (i := 1015) (by decide +kernel)⟩
theorem lw_p41 : lw_okq (⟨"HangWatchModel", "sort", "(II)I"⟩, 22) := ⟨⟨by decide +kernel, by decide +kernel⟩, List.mem_of_getElem? (i := 889) (by decide +kernel), List.mem_of_getElem? (i := 1018) (by decide +kernel), List.mem_of_getElem? (i := 1019) (by decide +kernel)⟩
theorem lw_p42 : lw_okq (⟨"HangWatchModel", "beats", "(I)V"⟩, 22) := ⟨⟨by decide +kernel, by decide +kernel⟩, List.mem_of_getElem? (i := 889) (by decide +kernel), List.mem_of_getElem? (i := 1022) (by decide +kernel), List.mem_of_getElem? (i := 1023) (by decide +kernel)⟩
theorem lw_p43 : lw_okq (⟨"HangWatchModel", "canBe", "(I)Z"⟩, 22) := ⟨⟨by decide +kernel, by decide +kernel⟩, List.mem_of_getElem? (i := 889) (by decide +kernel), List.mem_of_getElem? (i := 1026) (by decide +kernel), List.mem_of_getElem? (i := 1027) (by decide +kernel)⟩
theorem lw_p44 : lw_okq (⟨"HangWatchModel", "messageAt", "(II)I"⟩, 22) := ⟨⟨by decide +kernel, by decide +kernel⟩, List.mem_of_getElem? (i := 889) (by decide +kernel), List.mem_of_getElem? (i := 1030) (by decide +kernel), List.mem_of_getElem? (i := 1031) (by decide +kernel)⟩
theorem lw_p45 : lw_okq (⟨"HangWatchModel", "goesOn", "(I)V"⟩, 22) := ⟨⟨by decide +kernel, by decide +kernel⟩, List.mem_of_getElem? (i := 889) (by decide +kernel), List.mem_of_getElem? (i := 1034) (by decide +kernel), List.mem_of_getElem? (i := 1035) (by decide +kernel)⟩
theorem lw_p46 : lw_okq (⟨"HangWatchModel", "hard", "()I"⟩, 22) := ⟨⟨by decide +kernel, by decide +kernel⟩, List.mem_of_getElem? (i := 889) (by decide +kernel), List.mem_of_getElem? (i := 1038) (by decide +kernel), List.mem_of_getElem? (i := 1039) (by decide +kernel)⟩
theorem lw_p47 : lw_okq (⟨"HangWatchModel", "freeToGo", "()I"⟩, 22) := ⟨⟨by decide +kernel, by decide +kernel⟩, List.mem_of_getElem? (i := 889) (by decide +kernel), List.mem_of_getElem? (i := 1042) (by decide +kernel), List.mem_of_getElem? (i := 1043) (by decide +kernel)⟩
def lw_privs_3 : List (MethodName × Nat) := [(⟨"HangWatchModel", "ticksOf", "(I)I"⟩, 22), (⟨"HangWatchModel", "ticksOnce", "()V"⟩, 22), (⟨"HangWatchModel", "workers", "()I"⟩, 22), (⟨"HangWatchModel", "isEnded", "(I)Z"⟩, 22), (⟨"HangWatchModel", "place", "(I)I"⟩, 22), (⟨"HangWatchModel", "does", "(I)V"⟩, 22), (⟨"HangWatchModel", "numberNow", "(I)I"⟩, 22), (⟨"HangWatchModel", "number", "(II)I"⟩, 22), (⟨"HangWatchModel", "sortNow", "(I)I"⟩, 22), (⟨"HangWatchModel", "sort", "(II)I"⟩, 22), (⟨"HangWatchModel", "beats", "(I)V"⟩, 22), (⟨"HangWatchModel", "canBe", "(I)Z"⟩, 22), (⟨"HangWatchModel", "messageAt", "(II)I"⟩, 22), (⟨"HangWatchModel", "goesOn", "(I)V"⟩, 22), (⟨"HangWatchModel", "hard", "()I"⟩, 22), (⟨"HangWatchModel", "freeToGo", "()I"⟩, 22)]
theorem lw_r3 : ∀ q ∈ lw_privs_3, lw_okq q := List.forall_mem_cons.mpr ⟨lw_p32, List.forall_mem_cons.mpr ⟨lw_p33, List.forall_mem_cons.mpr ⟨lw_p34, List.forall_mem_cons.mpr ⟨lw_p35, List.forall_mem_cons.mpr ⟨lw_p36, List.forall_mem_cons.mpr ⟨lw_p37, List.forall_mem_cons.mpr ⟨lw_p38, List.forall_mem_cons.mpr ⟨lw_p39, List.forall_mem_cons.mpr ⟨lw_p40, List.forall_mem_cons.mpr ⟨lw_p41, List.forall_mem_cons.mpr ⟨lw_p42, List.forall_mem_cons.mpr ⟨lw_p43, List.forall_mem_cons.mpr ⟨lw_p44, List.forall_mem_cons.mpr ⟨lw_p45, List.forall_mem_cons.mpr ⟨lw_p46, List.forall_mem_cons.mpr ⟨lw_p47, fun _ h => absurd h List.not_mem_nil⟩⟩⟩⟩⟩⟩⟩⟩⟩⟩⟩⟩⟩⟩⟩⟩
theorem lw_p48 : lw_okq (⟨"HangWatchModel", "isHeldUp", "(I)Z"⟩, 22) := ⟨⟨by decide +kernel, by decide +kernel⟩, List.mem_of_getElem? (i := 889) (by decide +kernel), List.mem_of_getElem? (i := 1046) (by decide +kernel), List.mem_of_getElem? (i := 1047) (by decide +kernel)⟩
theorem lw_p49 : lw_okq (⟨"HangWatchModel", "waitsFor", "(I)I"⟩, 22) := ⟨⟨by decide +kernel, by decide +kernel⟩, List.mem_of_getElem? (i := 889) (by decide +kernel), List.mem_of_getElem? (i := 1050) (by decide +kernel), List.mem_of_getElem? (i := 1051) (by decide +kernel)⟩
theorem lw_p50 : lw_okq (⟨"HangWatchModel", "can", "(III)Z"⟩, 22) := ⟨⟨by decide +kernel, by decide +kernel⟩, List.mem_of_getElem? (i := 889) (by decide +kernel), List.mem_of_getElem? (i := 1054) (by decide +kernel), List.mem_of_getElem? (i := 1055) (by decide +kernel)⟩
theorem lw_p51 : lw_okq (⟨"HangWatchModel", "kindOf", "(II)I"⟩, 22) := ⟨⟨by decide +kernel, by decide +kernel⟩, List.mem_of_getElem? (i := 889) (by decide +kernel), List.mem_of_getElem? (i := 1058) (by decide +kernel), List.mem_of_getElem? (i := 1059) (by decide +kernel)⟩
theorem lw_p52 : lw_okq (⟨"HangWatchModel", "quiet", "(I)I"⟩, 22) := ⟨⟨by decide +kernel, by decide +kernel⟩, List.mem_of_getElem? (i := 889) (by decide +kernel), List.mem_of_getElem? (i := 1065) (by decide +kernel), List.mem_of_getElem? (i := 1066) (by decide +kernel)⟩
theorem lw_p53 : lw_okq (⟨"HangWatchModel", "isSoft", "(II)Z"⟩, 22) := ⟨⟨by decide +kernel, by decide +kernel⟩, List.mem_of_getElem? (i := 889) (by decide +kernel), List.mem_of_getElem? (i := 1069) (by decide +kernel), List.mem_of_getElem? (i := 1070) (by decide +kernel)⟩
theorem lw_p54 : lw_okq (⟨"HangWatchModel", "isSlow", "(I)Z"⟩, 22) := ⟨⟨by decide +kernel, by decide +kernel⟩, List.mem_of_getElem? (i := 889) (by decide +kernel), List.mem_of_getElem? (i := 1073) (by decide +kernel), List.mem_of_getElem? (i := 1074) (by decide +kernel)⟩
theorem lw_p55 : lw_okq (⟨"HangWatchModel", "keepsStall", "(III)V"⟩, 22) := ⟨⟨by decide +kernel, by decide +kernel⟩, List.mem_of_getElem? (i := 889) (by decide +kernel), List.mem_of_getElem? (i := 1077) (by decide +kernel), List.mem_of_getElem? (i := 1078) (by decide +kernel)⟩
theorem lw_p56 : lw_okq (⟨"HangWatchModel", "blocker", "(II)I"⟩, 22) := ⟨⟨by decide +kernel, by decide +kernel⟩, List.mem_of_getElem? (i := 889) (by decide +kernel), List.mem_of_getElem? (i := 1081) (by decide +kernel), List.mem_of_getElem? (i := 1082) (by decide +kernel)⟩
theorem lw_p57 : lw_okq (⟨"HangWatchModel", "freedBy", "(II)I"⟩, 22) := ⟨⟨by decide +kernel, by decide +kernel⟩, List.mem_of_getElem? (i := 889) (by decide +kernel), List.mem_of_getElem? (i := 1085) (by decide +kernel), List.mem_of_getElem? (i := 1086) (by decide +kernel)⟩
theorem lw_p58 : lw_okq (⟨"HangWatchModel", "letsGo", "(I)V"⟩, 22) := ⟨⟨by decide +kernel, by decide +kernel⟩, List.mem_of_getElem? (i := 889) (by decide +kernel), List.mem_of_getElem? (i := 1089) (by decide +kernel), List.mem_of_getElem? (i := 1090) (by decide +kernel)⟩
theorem lw_p59 : lw_okq (⟨"HangWatchModel", "neighbour", "(II)I"⟩, 22) := ⟨⟨by decide +kernel, by decide +kernel⟩, List.mem_of_getElem? (i := 889) (by decide +kernel), List.mem_of_getElem? (i := 1096) (by decide +kernel), List.mem_of_getElem? (i := 1097) (by decide +kernel)⟩
theorem lw_p60 : lw_okq (⟨"HangWatchModel", "ended", "()I"⟩, 22) := ⟨⟨by decide +kernel, by decide +kernel⟩, List.mem_of_getElem? (i := 889) (by decide +kernel), List.mem_of_getElem? (i := 1104) (by decide +kernel), List.mem_of_getElem? (i := 1105) (by decide +kernel)⟩
theorem lw_p61 : lw_okq (⟨"HangWatchModel", "isWorker", "(I)Z"⟩, 22) := ⟨⟨by decide +kernel, by decide +kernel⟩, List.mem_of_getElem? (i := 889) (by decide +kernel), List.mem_of_getElem? (i := 1112) (by decide +kernel), List.mem_of_getElem? (i := 1113) (by decide +kernel)⟩
theorem lw_p62 : lw_okq (⟨"HangWatchModel", "counted", "(I)I"⟩, 22) := ⟨⟨by decide +kernel, by decide +kernel⟩, List.mem_of_getElem? (i := 889) (by decide +kernel), List.mem_of_getElem? (i := 1128) (by decide +kernel), List.mem_of_getElem? (i := 1129) (by decide +kernel)⟩
theorem lw_p63 : lw_okq (⟨"HangWatchModel", "locks", "(I)I"⟩, 22) := ⟨⟨by decide +kernel, by decide +kernel⟩, List.mem_of_getElem? (i := 889) (by decide +kernel), List.mem_of_getElem? (i := 1139) (by decide +kernel), List.mem_of_getElem? (i := 1140) (by decide +kernel)⟩
def lw_privs_4 : List (MethodName × Nat) := [(⟨"HangWatchModel", "isHeldUp", "(I)Z"⟩, 22), (⟨"HangWatchModel", "waitsFor", "(I)I"⟩, 22), (⟨"HangWatchModel", "can", "(III)Z"⟩, 22), (⟨"HangWatchModel", "kindOf", "(II)I"⟩, 22), (⟨"HangWatchModel", "quiet", "(I)I"⟩, 22), (⟨"HangWatchModel", "isSoft", "(II)Z"⟩, 22), (⟨"HangWatchModel", "isSlow", "(I)Z"⟩, 22), (⟨"HangWatchModel", "keepsStall", "(III)V"⟩, 22), (⟨"HangWatchModel", "blocker", "(II)I"⟩, 22), (⟨"HangWatchModel", "freedBy", "(II)I"⟩, 22), (⟨"HangWatchModel", "letsGo", "(I)V"⟩, 22), (⟨"HangWatchModel", "neighbour", "(II)I"⟩, 22), (⟨"HangWatchModel", "ended", "()I"⟩, 22), (⟨"HangWatchModel", "isWorker", "(I)Z"⟩, 22), (⟨"HangWatchModel", "counted", "(I)I"⟩, 22), (⟨"HangWatchModel", "locks", "(I)I"⟩, 22)]
theorem lw_r4 : ∀ q ∈ lw_privs_4, lw_okq q := List.forall_mem_cons.mpr ⟨lw_p48, List.forall_mem_cons.mpr ⟨lw_p49, List.forall_mem_cons.mpr ⟨lw_p50, List.forall_mem_cons.mpr ⟨lw_p51, List.forall_mem_cons.mpr ⟨lw_p52, List.forall_mem_cons.mpr ⟨lw_p53, List.forall_mem_cons.mpr ⟨lw_p54, List.forall_mem_cons.mpr ⟨lw_p55, List.forall_mem_cons.mpr ⟨lw_p56, List.forall_mem_cons.mpr ⟨lw_p57, List.forall_mem_cons.mpr ⟨lw_p58, List.forall_mem_cons.mpr ⟨lw_p59, List.forall_mem_cons.mpr ⟨lw_p60, List.forall_mem_cons.mpr ⟨lw_p61, List.forall_mem_cons.mpr ⟨lw_p62, List.forall_mem_cons.mpr ⟨lw_p63, fun _ h => absurd h List.not_mem_nil⟩⟩⟩⟩⟩⟩⟩⟩⟩⟩⟩⟩⟩⟩⟩⟩
theorem lw_p64 : lw_okq (⟨"HangWatchModel", "goesWay", "(I)V"⟩, 22) := ⟨⟨by decide +kernel, by decide +kernel⟩, List.mem_of_getElem? (i := 889) (by decide +kernel), List.mem_of_getElem? (i := 1167) (by decide +kernel), List.mem_of_getElem? (i := 1168) (by decide +kernel)⟩
theorem lw_p65 : lw_okq (⟨"HangWatchModel", "laysAside", "()V"⟩, 22) := ⟨⟨by decide +kernel, by decide +kernel⟩, List.mem_of_getElem? (i := 889) (by decide +kernel), List.mem_of_getElem? (i := 1187) (by decide +kernel), List.mem_of_getElem? (i := 1188) (by decide +kernel)⟩
theorem lw_p66 : lw_okq (⟨"HangWatchModel", "areFreed", "(I)Z"⟩, 22) := ⟨⟨by decide +kernel, by decide +kernel⟩, List.mem_of_getElem? (i := 889) (by decide +kernel), List.mem_of_getElem? (i := 1203) (by decide +kernel), List.mem_of_getElem? (i := 1204) (by decide +kernel)⟩
theorem lw_p67 : lw_okq (⟨"HangWatchModel", "takes", "()V"⟩, 22) := ⟨⟨by decide +kernel, by decide +kernel⟩, List.mem_of_getElem? (i := 889) (by decide +kernel), List.mem_of_getElem? (i := 1223) (by decide +kernel), List.mem_of_getElem? (i := 1224) (by decide +kernel)⟩
theorem lw_p68 : lw_okq (⟨"HangWatchModel", "byteAt", "(I)I"⟩, 22) := ⟨⟨by decide +kernel, by decide +kernel⟩, List.mem_of_getElem? (i := 889) (by decide +kernel), List.mem_of_getElem? (i := 1227) (by decide +kernel), List.mem_of_getElem? (i := 1228) (by decide +kernel)⟩
theorem lw_p69 : lw_okq (⟨"HangWatchModel", "isGood", "()Z"⟩, 22) := ⟨⟨by decide +kernel, by decide +kernel⟩, List.mem_of_getElem? (i := 889) (by decide +kernel), List.mem_of_getElem? (i := 1242) (by decide +kernel), List.mem_of_getElem? (i := 1243) (by decide +kernel)⟩
theorem lw_p70 : lw_okq (⟨"HangWatchModel", "readsLine", "()V"⟩, 22) := ⟨⟨by decide +kernel, by decide +kernel⟩, List.mem_of_getElem? (i := 889) (by decide +kernel), List.mem_of_getElem? (i := 1246) (by decide +kernel), List.mem_of_getElem? (i := 1247) (by decide +kernel)⟩
theorem lw_p71 : lw_okq (⟨"HangWatchModel", "hasWord", "(J)Z"⟩, 22) := ⟨⟨by decide +kernel, by decide +kernel⟩, List.mem_of_getElem? (i := 889) (by decide +kernel), List.mem_of_getElem? (i := 1251) (by decide +kernel), List.mem_of_getElem? (i := 1252) (by decide +kernel)⟩
theorem lw_p72 : lw_okq (⟨"HangWatchModel", "numeral", "(II)I"⟩, 22) := ⟨⟨by decide +kernel, by decide +kernel⟩, List.mem_of_getElem? (i := 889) (by decide +kernel), List.mem_of_getElem? (i := 1255) (by decide +kernel), List.mem_of_getElem? (i := 1256) (by decide +kernel)⟩
theorem lw_p73 : lw_okq (⟨"HangWatchModel", "wrong", "()V"⟩, 22) := ⟨⟨by decide +kernel, by decide +kernel⟩, List.mem_of_getElem? (i := 889) (by decide +kernel), List.mem_of_getElem? (i := 1259) (by decide +kernel), List.mem_of_getElem? (i := 1260) (by decide +kernel)⟩
theorem lw_p74 : lw_okq (⟨"HangWatchModel", "also", "(II)V"⟩, 22) := ⟨⟨by decide +kernel, by decide +kernel⟩, List.mem_of_getElem? (i := 889) (by decide +kernel), List.mem_of_getElem? (i := 1263) (by decide +kernel), List.mem_of_getElem? (i := 1264) (by decide +kernel)⟩
theorem lw_p75 : lw_okq (⟨"HangWatchModel", "readsWorker", "(I)V"⟩, 22) := ⟨⟨by decide +kernel, by decide +kernel⟩, List.mem_of_getElem? (i := 889) (by decide +kernel), List.mem_of_getElem? (i := 1270) (by decide +kernel), List.mem_of_getElem? (i := 1271) (by decide +kernel)⟩
theorem lw_p76 : lw_okq (⟨"HangWatchModel", "sortOf", "(J)I"⟩, 22) := ⟨⟨by decide +kernel, by decide +kernel⟩, List.mem_of_getElem? (i := 889) (by decide +kernel), List.mem_of_getElem? (i := 1274) (by decide +kernel), List.mem_of_getElem? (i := 1275) (by decide +kernel)⟩
theorem lw_p77 : lw_okq (⟨"HangWatchModel", "numberOf", "(II)I"⟩, 22) := ⟨⟨by decide +kernel, by decide +kernel⟩, List.mem_of_getElem? (i := 889) (by decide +kernel), List.mem_of_getElem? (i := 1280) (by decide +kernel), List.mem_of_getElem? (i := 1281) (by decide +kernel)⟩
theorem lw_p78 : lw_okq (⟨"HangWatchModel", "hasSign", "(I)Z"⟩, 22) := ⟨⟨by decide +kernel, by decide +kernel⟩, List.mem_of_getElem? (i := 889) (by decide +kernel), List.mem_of_getElem? (i := 1285) (by decide +kernel), List.mem_of_getElem? (i := 1286) (by decide +kernel)⟩
theorem lw_p79 : lw_okq (⟨"HangWatchModel", "judges", "()V"⟩, 22) := ⟨⟨by decide +kernel, by decide +kernel⟩, List.mem_of_getElem? (i := 889) (by decide +kernel), List.mem_of_getElem? (i := 1289) (by decide +kernel), List.mem_of_getElem? (i := 1290) (by decide +kernel)⟩
def lw_privs_5 : List (MethodName × Nat) := [(⟨"HangWatchModel", "goesWay", "(I)V"⟩, 22), (⟨"HangWatchModel", "laysAside", "()V"⟩, 22), (⟨"HangWatchModel", "areFreed", "(I)Z"⟩, 22), (⟨"HangWatchModel", "takes", "()V"⟩, 22), (⟨"HangWatchModel", "byteAt", "(I)I"⟩, 22), (⟨"HangWatchModel", "isGood", "()Z"⟩, 22), (⟨"HangWatchModel", "readsLine", "()V"⟩, 22), (⟨"HangWatchModel", "hasWord", "(J)Z"⟩, 22), (⟨"HangWatchModel", "numeral", "(II)I"⟩, 22), (⟨"HangWatchModel", "wrong", "()V"⟩, 22), (⟨"HangWatchModel", "also", "(II)V"⟩, 22), (⟨"HangWatchModel", "readsWorker", "(I)V"⟩, 22), (⟨"HangWatchModel", "sortOf", "(J)I"⟩, 22), (⟨"HangWatchModel", "numberOf", "(II)I"⟩, 22), (⟨"HangWatchModel", "hasSign", "(I)Z"⟩, 22), (⟨"HangWatchModel", "judges", "()V"⟩, 22)]
theorem lw_r5 : ∀ q ∈ lw_privs_5, lw_okq q := List.forall_mem_cons.mpr ⟨lw_p64, List.forall_mem_cons.mpr ⟨lw_p65, List.forall_mem_cons.mpr ⟨lw_p66, List.forall_mem_cons.mpr ⟨lw_p67, List.forall_mem_cons.mpr ⟨lw_p68, List.forall_mem_cons.mpr ⟨lw_p69, List.forall_mem_cons.mpr ⟨lw_p70, List.forall_mem_cons.mpr ⟨lw_p71, List.forall_mem_cons.mpr ⟨lw_p72, List.forall_mem_cons.mpr ⟨lw_p73, List.forall_mem_cons.mpr ⟨lw_p74, List.forall_mem_cons.mpr ⟨lw_p75, List.forall_mem_cons.mpr ⟨lw_p76, List.forall_mem_cons.mpr ⟨lw_p77, List.forall_mem_cons.mpr ⟨lw_p78, List.forall_mem_cons.mpr ⟨lw_p79, fun _ h => absurd h List.not_mem_nil⟩⟩⟩⟩⟩⟩⟩⟩⟩⟩⟩⟩⟩⟩⟩⟩
def lw_privs : List (MethodName × Nat) := lw_privs_1 ++ (lw_privs_2 ++ (lw_privs_3 ++ (lw_privs_4 ++ (lw_privs_5))))
def lw_tbl : List Cond := k2_sels lw_privs ++ tables_1
theorem lw_privs_ok : ∀ q ∈ lw_privs, lw_okq q := by
  show ∀ q ∈ lw_privs_1 ++ (lw_privs_2 ++ (lw_privs_3 ++ (lw_privs_4 ++ (lw_privs_5)))), lw_okq q
  exact List.forall_mem_append.mpr ⟨lw_r1, List.forall_mem_append.mpr ⟨lw_r2, List.forall_mem_append.mpr ⟨lw_r3, List.forall_mem_append.mpr ⟨lw_r4, lw_r5⟩⟩⟩⟩
end
section
def RX0 : String := "HangWatch$History"
def TX0 : u_T := fun k => match k with
  | 0 => ("HangWatch$History", "scenes", "[LHangWatch$Scene;", true)
  | 1 => ("HangWatch$History", "stalls", "[LHangWatch$Stalls;", true)
  | 2 => ("HangWatch$History", "next", "I", false)
  | _ => ("HangWatch$History", "many", "I", false)
def tyX0 : Nat → FieldType := fun k => match k with
  | 0 => .array (.object "HangWatch$Scene")
  | 1 => .array (.object "HangWatch$Stalls")
  | 2 => .int
  | _ => .int
theorem nmX0 : ∀ a, a < 4 → ∀ b, b < 4 → a ≠ b → (TX0 a).2.1 ≠ (TX0 b).2.1 := by decide +kernel
theorem tyX0_ok : ∀ k, k < 4 → parseFieldDescriptor (TX0 k).2.2.1 = some (tyX0 k) := by decide +kernel
abbrev cX0_init : ByteArray := prog_2_method_1_code
def yX0_init : MethodName := ⟨RX0, "<init>", "()V"⟩
abbrev cX0_clear : ByteArray := prog_2_method_2_code
def yX0_clear : MethodName := ⟨RX0, "clear", "()V"⟩
abbrev cX0_push : ByteArray := prog_2_method_3_code
def yX0_push : MethodName := ⟨RX0, "push", "(LHangWatch$World;)V"⟩
abbrev cX0_pop : ByteArray := prog_2_method_4_code
def yX0_pop : MethodName := ⟨RX0, "pop", "(LHangWatch$World;)V"⟩
def RX1 : String := "HangWatch$Plan"
def TX1 : u_T := fun k => match k with
  | 0 => ("HangWatch$Plan", "workers", "I", false)
  | 1 => ("HangWatch$Plan", "window", "I", false)
  | 2 => ("HangWatch$Plan", "grace", "I", false)
  | 3 => ("HangWatch$Plan", "lengths", "[I", true)
  | 4 => ("HangWatch$Plan", "kinds", "[I", true)
  | 5 => ("HangWatch$Plan", "numbers", "[I", true)
  | 6 => ("HangWatch$Plan", "reach", "[I", true)
  | _ => ("HangWatch$Plan", "rooms", "[I", true)
def tyX1 : Nat → FieldType := fun k => match k with
  | 0 => .int
  | 1 => .int
  | 2 => .int
  | 3 => .array .int
  | 4 => .array .int
  | 5 => .array .int
  | 6 => .array .int
  | _ => .array .int
theorem nmX1 : ∀ a, a < 8 → ∀ b, b < 8 → a ≠ b → (TX1 a).2.1 ≠ (TX1 b).2.1 := by decide +kernel
theorem tyX1_ok : ∀ k, k < 8 → parseFieldDescriptor (TX1 k).2.2.1 = some (tyX1 k) := by decide +kernel
abbrev cX1_init : ByteArray := prog_3_method_1_code
def yX1_init : MethodName := ⟨RX1, "<init>", "()V"⟩
abbrev cX1_clear : ByteArray := prog_3_method_2_code
def yX1_clear : MethodName := ⟨RX1, "clear", "()V"⟩
abbrev cX1_take : ByteArray := prog_3_method_3_code
def yX1_take : MethodName := ⟨RX1, "take", "(LHangWatch$Plan;)V"⟩
abbrev cX1_addWorker : ByteArray := prog_3_method_4_code
def yX1_addWorker : MethodName := ⟨RX1, "addWorker", "()Z"⟩
abbrev cX1_addStep : ByteArray := prog_3_method_5_code
def yX1_addStep : MethodName := ⟨RX1, "addStep", "(I)I"⟩
abbrev cX1_cellOf : ByteArray := prog_3_method_6_code
def yX1_cellOf : MethodName := ⟨RX1, "cellOf", "(II)I"⟩
abbrev cX1_kindAt : ByteArray := prog_3_method_7_code
def yX1_kindAt : MethodName := ⟨RX1, "kindAt", "(II)I"⟩
abbrev cX1_numberAt : ByteArray := prog_3_method_8_code
def yX1_numberAt : MethodName := ⟨RX1, "numberAt", "(II)I"⟩
abbrev cX1_reachAt : ByteArray := prog_3_method_9_code
def yX1_reachAt : MethodName := ⟨RX1, "reachAt", "(II)I"⟩
abbrev cX1_bitOf : ByteArray := prog_3_method_10_code
def yX1_bitOf : MethodName := ⟨RX1, "bitOf", "(II)I"⟩
abbrev cX1_findReach : ByteArray := prog_3_method_11_code
def yX1_findReach : MethodName := ⟨RX1, "findReach", "()V"⟩
abbrev cX1_reachFrom : ByteArray := prog_3_method_12_code
def yX1_reachFrom : MethodName := ⟨RX1, "reachFrom", "(II)I"⟩
abbrev cX1_reachBetween : ByteArray := prog_3_method_13_code
def yX1_reachBetween : MethodName := ⟨RX1, "reachBetween", "(III)I"⟩
def RX2 : String := "HangWatch$Reader"
def TX2 : u_T := fun k => match k with
  | 0 => ("HangWatch$Reader", "draft", "LHangWatch$Plan;", true)
  | 1 => ("HangWatch$Reader", "spots", "[I", true)
  | 2 => ("HangWatch$Reader", "fault", "I", false)
  | 3 => ("HangWatch$Reader", "spot", "I", false)
  | 4 => ("HangWatch$Reader", "token", "I", false)
  | 5 => ("HangWatch$Reader", "start", "I", false)
  | 6 => ("HangWatch$Reader", "value", "I", false)
  | 7 => ("HangWatch$Reader", "next", "I", false)
  | 8 => ("HangWatch$Reader", "word", "I", false)
  | 9 => ("HangWatch$Reader", "cell", "I", false)
  | _ => ("HangWatch$Reader", "pipeTold", "I", false)
def tyX2 : Nat → FieldType := fun k => match k with
  | 0 => .object "HangWatch$Plan"
  | 1 => .array .int
  | 2 => .int
  | 3 => .int
  | 4 => .int
  | 5 => .int
  | 6 => .int
  | 7 => .int
  | 8 => .int
  | 9 => .int
  | _ => .int
theorem nmX2 : ∀ a, a < 11 → ∀ b, b < 11 → a ≠ b → (TX2 a).2.1 ≠ (TX2 b).2.1 := by decide +kernel
theorem tyX2_ok : ∀ k, k < 11 → parseFieldDescriptor (TX2 k).2.2.1 = some (tyX2 k) := by decide +kernel
abbrev cX2_init : ByteArray := prog_4_method_1_code
def yX2_init : MethodName := ⟨RX2, "<init>", "()V"⟩
abbrev cX2_read : ByteArray := prog_4_method_2_code
def yX2_read : MethodName := ⟨RX2, "read", "(LHangWatch$Tape;)V"⟩
abbrev cX2_note : ByteArray := prog_4_method_3_code
def yX2_note : MethodName := ⟨RX2, "note", "(I)V"⟩
abbrev cX2_seekStrangers : ByteArray := prog_4_method_4_code
def yX2_seekStrangers : MethodName := ⟨RX2, "seekStrangers", "()V"⟩
abbrev cX2_follow : ByteArray := prog_4_method_5_code
def yX2_follow : MethodName := ⟨RX2, "follow", "(I)I"⟩
abbrev cX2_openLine : ByteArray := prog_4_method_6_code
def yX2_openLine : MethodName := ⟨RX2, "openLine", "()I"⟩
abbrev cX2_openStep : ByteArray := prog_4_method_7_code
def yX2_openStep : MethodName := ⟨RX2, "openStep", "()I"⟩
abbrev cX2_takeNumber : ByteArray := prog_4_method_8_code
def yX2_takeNumber : MethodName := ⟨RX2, "takeNumber", "()I"⟩
abbrev cX2_scan : ByteArray := prog_4_method_9_code
def yX2_scan : MethodName := ⟨RX2, "scan", "(LHangWatch$Tape;)V"⟩
abbrev cX2_scanWord : ByteArray := prog_4_method_10_code
def yX2_scanWord : MethodName := ⟨RX2, "scanWord", "(LHangWatch$Tape;)V"⟩
abbrev cX2_scanNumber : ByteArray := prog_4_method_11_code
def yX2_scanNumber : MethodName := ⟨RX2, "scanNumber", "(LHangWatch$Tape;)V"⟩
abbrev cX2_isWord : ByteArray := prog_4_method_12_code
def yX2_isWord : MethodName := ⟨RX2, "isWord", "(LHangWatch$Tape;I)Z"⟩
abbrev cX2_isBlank : ByteArray := prog_4_method_13_code
def yX2_isBlank : MethodName := ⟨RX2, "isBlank", "(I)Z"⟩
abbrev cX2_isLetter : ByteArray := prog_4_method_14_code
def yX2_isLetter : MethodName := ⟨RX2, "isLetter", "(I)Z"⟩
abbrev cX2_isDigit : ByteArray := prog_4_method_15_code
def yX2_isDigit : MethodName := ⟨RX2, "isDigit", "(I)Z"⟩
def RX3 : String := "HangWatch$Scene"
def TX3 : u_T := fun k => match k with
  | 0 => ("HangWatch$Scene", "tick", "I", false)
  | 1 => ("HangWatch$Scene", "window", "I", false)
  | 2 => ("HangWatch$Scene", "grace", "I", false)
  | 3 => ("HangWatch$Scene", "place", "[I", true)
  | 4 => ("HangWatch$Scene", "ticked", "[I", true)
  | 5 => ("HangWatch$Scene", "beat", "[I", true)
  | 6 => ("HangWatch$Scene", "steps", "[I", true)
  | 7 => ("HangWatch$Scene", "marks", "[I", true)
  | 8 => ("HangWatch$Scene", "holders", "[I", true)
  | 9 => ("HangWatch$Scene", "lies", "[I", true)
  | _ => ("HangWatch$Scene", "mail", "[I", true)
def tyX3 : Nat → FieldType := fun k => match k with
  | 0 => .int
  | 1 => .int
  | 2 => .int
  | 3 => .array .int
  | 4 => .array .int
  | 5 => .array .int
  | 6 => .array .int
  | 7 => .array .int
  | 8 => .array .int
  | 9 => .array .int
  | _ => .array .int
theorem nmX3 : ∀ a, a < 11 → ∀ b, b < 11 → a ≠ b → (TX3 a).2.1 ≠ (TX3 b).2.1 := by decide +kernel
theorem tyX3_ok : ∀ k, k < 11 → parseFieldDescriptor (TX3 k).2.2.1 = some (tyX3 k) := by decide +kernel
abbrev cX3_init : ByteArray := prog_5_method_1_code
def yX3_init : MethodName := ⟨RX3, "<init>", "()V"⟩
abbrev cX3_begin : ByteArray := prog_5_method_2_code
def yX3_begin : MethodName := ⟨RX3, "begin", "(LHangWatch$Plan;)V"⟩
abbrev cX3_take : ByteArray := prog_5_method_3_code
def yX3_take : MethodName := ⟨RX3, "take", "(LHangWatch$Scene;)V"⟩
abbrev cX3_allEnded : ByteArray := prog_5_method_4_code
def yX3_allEnded : MethodName := ⟨RX3, "allEnded", "(LHangWatch$Plan;)Z"⟩
abbrev cX3_quiet : ByteArray := prog_5_method_5_code
def yX3_quiet : MethodName := ⟨RX3, "quiet", "(I)I"⟩
abbrev cX3_anyQuiet : ByteArray := prog_5_method_6_code
def yX3_anyQuiet : MethodName := ⟨RX3, "anyQuiet", "(LHangWatch$Plan;)Z"⟩
abbrev cX3_locksOf : ByteArray := prog_5_method_7_code
def yX3_locksOf : MethodName := ⟨RX3, "locksOf", "(I)I"⟩
abbrev cX3_canDo : ByteArray := prog_5_method_8_code
def yX3_canDo : MethodName := ⟨RX3, "canDo", "(LHangWatch$Plan;I)Z"⟩
abbrev cX3_pass : ByteArray := prog_5_method_9_code
def yX3_pass : MethodName := ⟨RX3, "pass", "(LHangWatch$Plan;)V"⟩
abbrev cX3_act : ByteArray := prog_5_method_10_code
def yX3_act : MethodName := ⟨RX3, "act", "(LHangWatch$Plan;I)V"⟩
abbrev cX3_spend : ByteArray := prog_5_method_11_code
def yX3_spend : MethodName := ⟨RX3, "spend", "(LHangWatch$Plan;III)V"⟩
abbrev cX3_finish : ByteArray := prog_5_method_12_code
def yX3_finish : MethodName := ⟨RX3, "finish", "(LHangWatch$Plan;II)V"⟩
abbrev cX3_beatNow : ByteArray := prog_5_method_13_code
def yX3_beatNow : MethodName := ⟨RX3, "beatNow", "(I)V"⟩
abbrev cX3_letGo : ByteArray := prog_5_method_14_code
def yX3_letGo : MethodName := ⟨RX3, "letGo", "(LHangWatch$Plan;I)V"⟩
abbrev cX3_mark : ByteArray := prog_5_method_15_code
def yX3_mark : MethodName := ⟨RX3, "mark", "(II)Z"⟩
def RX4 : String := "HangWatch$Stalls"
def TX4 : u_T := fun k => match k with
  | 0 => ("HangWatch$Stalls", "rows", "[I", true)
  | 1 => ("HangWatch$Stalls", "eldest", "I", false)
  | 2 => ("HangWatch$Stalls", "kept", "I", false)
  | _ => ("HangWatch$Stalls", "total", "I", false)
def tyX4 : Nat → FieldType := fun k => match k with
  | 0 => .array .int
  | 1 => .int
  | 2 => .int
  | _ => .int
theorem nmX4 : ∀ a, a < 4 → ∀ b, b < 4 → a ≠ b → (TX4 a).2.1 ≠ (TX4 b).2.1 := by decide +kernel
theorem tyX4_ok : ∀ k, k < 4 → parseFieldDescriptor (TX4 k).2.2.1 = some (tyX4 k) := by decide +kernel
abbrev cX4_init : ByteArray := prog_6_method_1_code
def yX4_init : MethodName := ⟨RX4, "<init>", "()V"⟩
abbrev cX4_clear : ByteArray := prog_6_method_2_code
def yX4_clear : MethodName := ⟨RX4, "clear", "()V"⟩
abbrev cX4_take : ByteArray := prog_6_method_3_code
def yX4_take : MethodName := ⟨RX4, "take", "(LHangWatch$Stalls;)V"⟩
abbrev cX4_keep : ByteArray := prog_6_method_4_code
def yX4_keep : MethodName := ⟨RX4, "keep", "(IIIII)V"⟩
abbrev cX4_part : ByteArray := prog_6_method_5_code
def yX4_part : MethodName := ⟨RX4, "part", "(II)I"⟩
def RX5 : String := "HangWatch$Tape"
def TX5 : u_T := fun k => match k with
  | 0 => ("HangWatch$Tape", "bytes", "[B", true)
  | _ => ("HangWatch$Tape", "length", "I", false)
def tyX5 : Nat → FieldType := fun k => match k with
  | 0 => .array .byte
  | _ => .int
theorem nmX5 : ∀ a, a < 2 → ∀ b, b < 2 → a ≠ b → (TX5 a).2.1 ≠ (TX5 b).2.1 := by decide +kernel
theorem tyX5_ok : ∀ k, k < 2 → parseFieldDescriptor (TX5 k).2.2.1 = some (tyX5 k) := by decide +kernel
abbrev cX5_init : ByteArray := prog_7_method_1_code
def yX5_init : MethodName := ⟨RX5, "<init>", "()V"⟩
abbrev cX5_put : ByteArray := prog_7_method_2_code
def yX5_put : MethodName := ⟨RX5, "put", "(I)V"⟩
abbrev cX5_byteAt : ByteArray := prog_7_method_3_code
def yX5_byteAt : MethodName := ⟨RX5, "byteAt", "(I)I"⟩
abbrev cX5_take : ByteArray := prog_7_method_4_code
def yX5_take : MethodName := ⟨RX5, "take", "(LHangWatch$Tape;)V"⟩
def RX6 : String := "HangWatch$Trial"
def TX6 : u_T := fun k => match k with
  | 0 => ("HangWatch$Trial", "scene", "LHangWatch$Scene;", true)
  | 1 => ("HangWatch$Trial", "view", "LHangWatch$View;", true)
  | _ => ("HangWatch$Trial", "frees", "[I", true)
def tyX6 : Nat → FieldType := fun k => match k with
  | 0 => .object "HangWatch$Scene"
  | 1 => .object "HangWatch$View"
  | _ => .array .int
theorem nmX6 : ∀ a, a < 3 → ∀ b, b < 3 → a ≠ b → (TX6 a).2.1 ≠ (TX6 b).2.1 := by decide +kernel
theorem tyX6_ok : ∀ k, k < 3 → parseFieldDescriptor (TX6 k).2.2.1 = some (tyX6 k) := by decide +kernel
abbrev cX6_init : ByteArray := prog_8_method_1_code
def yX6_init : MethodName := ⟨RX6, "<init>", "()V"⟩
abbrev cX6_weigh : ByteArray := prog_8_method_2_code
def yX6_weigh : MethodName := ⟨RX6, "weigh", "(LHangWatch$Plan;LHangWatch$Scene;LHangWatch$View;)V"⟩
abbrev cX6_blocker : ByteArray := prog_8_method_3_code
def yX6_blocker : MethodName := ⟨RX6, "blocker", "(LHangWatch$Scene;LHangWatch$View;I)I"⟩
abbrev cX6_isBetter : ByteArray := prog_8_method_4_code
def yX6_isBetter : MethodName := ⟨RX6, "isBetter", "(LHangWatch$Scene;II)Z"⟩
abbrev cX6_fewestOf : ByteArray := prog_8_method_5_code
def yX6_fewestOf : MethodName := ⟨RX6, "fewestOf", "(LHangWatch$Plan;LHangWatch$Scene;I)I"⟩
abbrev cX6_leavesNoneHard : ByteArray := prog_8_method_6_code
def yX6_leavesNoneHard : MethodName := ⟨RX6, "leavesNoneHard", "(LHangWatch$Plan;LHangWatch$Scene;I)Z"⟩
def RX7 : String := "HangWatch$View"
def TX7 : u_T := fun k => match k with
  | 0 => ("HangWatch$View", "workers", "I", false)
  | 1 => ("HangWatch$View", "ended", "I", false)
  | 2 => ("HangWatch$View", "heldUp", "I", false)
  | 3 => ("HangWatch$View", "freeToGo", "I", false)
  | 4 => ("HangWatch$View", "hard", "I", false)
  | 5 => ("HangWatch$View", "soft", "I", false)
  | 6 => ("HangWatch$View", "slow", "I", false)
  | 7 => ("HangWatch$View", "hung", "I", false)
  | 8 => ("HangWatch$View", "can", "[I", true)
  | 9 => ("HangWatch$View", "waitsFor", "[I", true)
  | 10 => ("HangWatch$View", "path", "[I", true)
  | 11 => ("HangWatch$View", "pathLength", "I", false)
  | _ => ("HangWatch$View", "ringLength", "I", false)
def tyX7 : Nat → FieldType := fun k => match k with
  | 0 => .int
  | 1 => .int
  | 2 => .int
  | 3 => .int
  | 4 => .int
  | 5 => .int
  | 6 => .int
  | 7 => .int
  | 8 => .array .int
  | 9 => .array .int
  | 10 => .array .int
  | 11 => .int
  | _ => .int
theorem nmX7 : ∀ a, a < 13 → ∀ b, b < 13 → a ≠ b → (TX7 a).2.1 ≠ (TX7 b).2.1 := by decide +kernel
theorem tyX7_ok : ∀ k, k < 13 → parseFieldDescriptor (TX7 k).2.2.1 = some (tyX7 k) := by decide +kernel
abbrev cX7_init : ByteArray := prog_9_method_1_code
def yX7_init : MethodName := ⟨RX7, "<init>", "()V"⟩
abbrev cX7_look : ByteArray := prog_9_method_2_code
def yX7_look : MethodName := ⟨RX7, "look", "(LHangWatch$Plan;LHangWatch$Scene;)V"⟩
abbrev cX7_waitsOf : ByteArray := prog_9_method_3_code
def yX7_waitsOf : MethodName := ⟨RX7, "waitsOf", "(LHangWatch$Plan;LHangWatch$Scene;I)I"⟩
abbrev cX7_whoCan : ByteArray := prog_9_method_4_code
def yX7_whoCan : MethodName := ⟨RX7, "whoCan", "(II)I"⟩
abbrev cX7_spreadFreedom : ByteArray := prog_9_method_5_code
def yX7_spreadFreedom : MethodName := ⟨RX7, "spreadFreedom", "()V"⟩
abbrev cX7_findLate : ByteArray := prog_9_method_6_code
def yX7_findLate : MethodName := ⟨RX7, "findLate", "(LHangWatch$Plan;LHangWatch$Scene;)V"⟩
abbrev cX7_stallKind : ByteArray := prog_9_method_7_code
def yX7_stallKind : MethodName := ⟨RX7, "stallKind", "(I)I"⟩
abbrev cX7_tally : ByteArray := prog_9_method_8_code
def yX7_tally : MethodName := ⟨RX7, "tally", "(I)I"⟩
abbrev cX7_neighbour : ByteArray := prog_9_method_9_code
def yX7_neighbour : MethodName := ⟨RX7, "neighbour", "(I)I"⟩
abbrev cX7_walk : ByteArray := prog_9_method_10_code
def yX7_walk : MethodName := ⟨RX7, "walk", "(I)V"⟩
abbrev cX7_pathPlace : ByteArray := prog_9_method_11_code
def yX7_pathPlace : MethodName := ⟨RX7, "pathPlace", "(I)I"⟩
abbrev cX7_leastOf : ByteArray := prog_9_method_12_code
def yX7_leastOf : MethodName := ⟨RX7, "leastOf", "(I)I"⟩
def RX8 : String := "HangWatch$World"
def TX8 : u_T := fun k => match k with
  | 0 => ("HangWatch$World", "plan", "LHangWatch$Plan;", true)
  | 1 => ("HangWatch$World", "scene", "LHangWatch$Scene;", true)
  | 2 => ("HangWatch$World", "stalls", "LHangWatch$Stalls;", true)
  | 3 => ("HangWatch$World", "tape", "LHangWatch$Tape;", true)
  | 4 => ("HangWatch$World", "fault", "I", false)
  | _ => ("HangWatch$World", "spot", "I", false)
def tyX8 : Nat → FieldType := fun k => match k with
  | 0 => .object "HangWatch$Plan"
  | 1 => .object "HangWatch$Scene"
  | 2 => .object "HangWatch$Stalls"
  | 3 => .object "HangWatch$Tape"
  | 4 => .int
  | _ => .int
theorem nmX8 : ∀ a, a < 6 → ∀ b, b < 6 → a ≠ b → (TX8 a).2.1 ≠ (TX8 b).2.1 := by decide +kernel
theorem tyX8_ok : ∀ k, k < 6 → parseFieldDescriptor (TX8 k).2.2.1 = some (tyX8 k) := by decide +kernel
abbrev cX8_init : ByteArray := prog_10_method_1_code
def yX8_init : MethodName := ⟨RX8, "<init>", "()V"⟩
abbrev cX8_take : ByteArray := prog_10_method_2_code
def yX8_take : MethodName := ⟨RX8, "take", "(LHangWatch$World;)V"⟩
def RX9 : String := "HangWatch"
def TX9 : u_T := fun k => match k with
  | 0 => ("HangWatch", "now", "LHangWatch$World;", true)
  | 1 => ("HangWatch", "images", "[LHangWatch$World;", true)
  | 2 => ("HangWatch", "history", "LHangWatch$History;", true)
  | 3 => ("HangWatch", "reader", "LHangWatch$Reader;", true)
  | 4 => ("HangWatch", "view", "LHangWatch$View;", true)
  | 5 => ("HangWatch", "trial", "LHangWatch$Trial;", true)
  | _ => ("HangWatch", "future", "LHangWatch$Scene;", true)
def tyX9 : Nat → FieldType := fun k => match k with
  | 0 => .object "HangWatch$World"
  | 1 => .array (.object "HangWatch$World")
  | 2 => .object "HangWatch$History"
  | 3 => .object "HangWatch$Reader"
  | 4 => .object "HangWatch$View"
  | 5 => .object "HangWatch$Trial"
  | _ => .object "HangWatch$Scene"
theorem nmX9 : ∀ a, a < 7 → ∀ b, b < 7 → a ≠ b → (TX9 a).2.1 ≠ (TX9 b).2.1 := by decide +kernel
theorem tyX9_ok : ∀ k, k < 7 → parseFieldDescriptor (TX9 k).2.2.1 = some (tyX9 k) := by decide +kernel
abbrev cX9_init : ByteArray := prog_1_method_1_code
def yX9_init : MethodName := ⟨RX9, "<init>", "()V"⟩
abbrev cX9_feed : ByteArray := prog_1_method_2_code
def yX9_feed : MethodName := ⟨RX9, "feed", "(IIIII)I"⟩
abbrev cX9_end : ByteArray := prog_1_method_3_code
def yX9_end : MethodName := ⟨RX9, "end", "(I)I"⟩
abbrev cX9_text : ByteArray := prog_1_method_4_code
def yX9_text : MethodName := ⟨RX9, "text", "()I"⟩
abbrev cX9_fault : ByteArray := prog_1_method_5_code
def yX9_fault : MethodName := ⟨RX9, "fault", "(I)I"⟩
abbrev cX9_ticks : ByteArray := prog_1_method_6_code
def yX9_ticks : MethodName := ⟨RX9, "ticks", "(I)I"⟩
abbrev cX9_watch : ByteArray := prog_1_method_7_code
def yX9_watch : MethodName := ⟨RX9, "watch", "()I"⟩
abbrev cX9_free : ByteArray := prog_1_method_8_code
def yX9_free : MethodName := ⟨RX9, "free", "(I)Z"⟩
abbrev cX9_within : ByteArray := prog_1_method_9_code
def yX9_within : MethodName := ⟨RX9, "within", "(ZI)Z"⟩
abbrev cX9_undo : ByteArray := prog_1_method_10_code
def yX9_undo : MethodName := ⟨RX9, "undo", "()I"⟩
abbrev cX9_count : ByteArray := prog_1_method_11_code
def yX9_count : MethodName := ⟨RX9, "count", "(I)I"⟩
abbrev cX9_worker : ByteArray := prog_1_method_12_code
def yX9_worker : MethodName := ⟨RX9, "worker", "(II)I"⟩
abbrev cX9_step : ByteArray := prog_1_method_13_code
def yX9_step : MethodName := ⟨RX9, "step", "(IIZ)I"⟩
abbrev cX9_holder : ByteArray := prog_1_method_14_code
def yX9_holder : MethodName := ⟨RX9, "holder", "(I)I"⟩
abbrev cX9_pipe : ByteArray := prog_1_method_15_code
def yX9_pipe : MethodName := ⟨RX9, "pipe", "(IZ)I"⟩
abbrev cX9_messages : ByteArray := prog_1_method_16_code
def yX9_messages : MethodName := ⟨RX9, "messages", "(II)I"⟩
abbrev cX9_waits : ByteArray := prog_1_method_17_code
def yX9_waits : MethodName := ⟨RX9, "waits", "(I)I"⟩
abbrev cX9_way : ByteArray := prog_1_method_18_code
def yX9_way : MethodName := ⟨RX9, "way", "(II)I"⟩
abbrev cX9_ring : ByteArray := prog_1_method_19_code
def yX9_ring : MethodName := ⟨RX9, "ring", "(I)I"⟩
abbrev cX9_stall : ByteArray := prog_1_method_20_code
def yX9_stall : MethodName := ⟨RX9, "stall", "(II)I"⟩
abbrev cX9_freed : ByteArray := prog_1_method_21_code
def yX9_freed : MethodName := ⟨RX9, "freed", "(I)I"⟩
abbrev cX9_later : ByteArray := prog_1_method_22_code
def yX9_later : MethodName := ⟨RX9, "later", "(II)I"⟩
abbrev cX9_ends : ByteArray := prog_1_method_23_code
def yX9_ends : MethodName := ⟨RX9, "ends", "(I)I"⟩
abbrev cX9_told : ByteArray := prog_1_method_24_code
def yX9_told : MethodName := ⟨RX9, "told", "(II)I"⟩
abbrev cX9_fewest : ByteArray := prog_1_method_25_code
def yX9_fewest : MethodName := ⟨RX9, "fewest", "(Z)I"⟩
abbrev cX9_image : ByteArray := prog_1_method_26_code
def yX9_image : MethodName := ⟨RX9, "image", "(I)Z"⟩
abbrev cX9_again : ByteArray := prog_1_method_27_code
def yX9_again : MethodName := ⟨RX9, "again", "(I)Z"⟩
abbrev cX9_isWorker : ByteArray := prog_1_method_28_code
def yX9_isWorker : MethodName := ⟨RX9, "isWorker", "(I)Z"⟩
abbrev cX9_lookNow : ByteArray := prog_1_method_29_code
def yX9_lookNow : MethodName := ⟨RX9, "lookNow", "()V"⟩
abbrev cX9_seen : ByteArray := prog_1_method_30_code
def yX9_seen : MethodName := ⟨RX9, "seen", "(II)I"⟩
abbrev cX9_passTick : ByteArray := prog_1_method_31_code
def yX9_passTick : MethodName := ⟨RX9, "passTick", "()I"⟩
abbrev cX9_markStalls : ByteArray := prog_1_method_32_code
def yX9_markStalls : MethodName := ⟨RX9, "markStalls", "(LHangWatch$Scene;)I"⟩
abbrev cX9_keepStalls : ByteArray := prog_1_method_33_code
def yX9_keepStalls : MethodName := ⟨RX9, "keepStalls", "(I)V"⟩
abbrev cX9_at : ByteArray := prog_1_method_34_code
def yX9_at : MethodName := ⟨RX9, "at", "([II)I"⟩
abbrev cX9_add : ByteArray := prog_1_method_35_code
def yX9_add : MethodName := ⟨RX9, "add", "([III)V"⟩
abbrev cX9_set : ByteArray := prog_1_method_36_code
def yX9_set : MethodName := ⟨RX9, "set", "([III)V"⟩
abbrev cX9_has : ByteArray := prog_1_method_37_code
def yX9_has : MethodName := ⟨RX9, "has", "(II)Z"⟩
abbrev cX9_copy : ByteArray := prog_1_method_38_code
def yX9_copy : MethodName := ⟨RX9, "copy", "([I[I)V"⟩
def RX10 : String := "HangWatchModel"
def TX10 : u_T := fun k => match k with
  | 0 => ("HangWatchModel", "all", "[I", true)
  | 1 => ("HangWatchModel", "tape", "[I", true)
  | 2 => ("HangWatchModel", "isImage", "[Z", true)
  | 3 => ("HangWatchModel", "taped", "I", false)
  | 4 => ("HangWatchModel", "faultKind", "I", false)
  | 5 => ("HangWatchModel", "faultPlace", "I", false)
  | 6 => ("HangWatchModel", "undos", "I", false)
  | 7 => ("HangWatchModel", "b", "I", false)
  | 8 => ("HangWatchModel", "way", "[I", true)
  | 9 => ("HangWatchModel", "wayMany", "I", false)
  | 10 => ("HangWatchModel", "ringFrom", "I", false)
  | 11 => ("HangWatchModel", "size0", "I", false)
  | 12 => ("HangWatchModel", "next", "I", false)
  | 13 => ("HangWatchModel", "token", "I", false)
  | 14 => ("HangWatchModel", "tokenAt", "I", false)
  | 15 => ("HangWatchModel", "value", "J", false)
  | 16 => ("HangWatchModel", "alsoKind", "I", false)
  | 17 => ("HangWatchModel", "alsoPlace", "I", false)
  | 18 => ("HangWatchModel", "named", "[I", true)
  | 19 => ("HangWatchModel", "namedAt", "[I", true)
  | 20 => ("HangWatchModel", "namedBy", "[I", true)
  | _ => ("HangWatchModel", "namedMany", "I", false)
def tyX10 : Nat → FieldType := fun k => match k with
  | 0 => .array .int
  | 1 => .array .int
  | 2 => .array .boolean
  | 3 => .int
  | 4 => .int
  | 5 => .int
  | 6 => .int
  | 7 => .int
  | 8 => .array .int
  | 9 => .int
  | 10 => .int
  | 11 => .int
  | 12 => .int
  | 13 => .int
  | 14 => .int
  | 15 => .long
  | 16 => .int
  | 17 => .int
  | 18 => .array .int
  | 19 => .array .int
  | 20 => .array .int
  | _ => .int
theorem nmX10 : ∀ a, a < 22 → ∀ b, b < 22 → a ≠ b → (TX10 a).2.1 ≠ (TX10 b).2.1 := by decide +kernel
theorem tyX10_ok : ∀ k, k < 22 → parseFieldDescriptor (TX10 k).2.2.1 = some (tyX10 k) := by decide +kernel
abbrev cX10_init : ByteArray := prog_12_method_1_code
def yX10_init : MethodName := ⟨RX10, "<init>", "()V"⟩
abbrev cX10_firsts : ByteArray := prog_12_method_2_code
def yX10_firsts : MethodName := ⟨RX10, "firsts", "(I)V"⟩
abbrev cX10_isIn : ByteArray := prog_12_method_3_code
def yX10_isIn : MethodName := ⟨RX10, "isIn", "(III)Z"⟩
abbrev cX10_has : ByteArray := prog_12_method_4_code
def yX10_has : MethodName := ⟨RX10, "has", "(II)Z"⟩
abbrev cX10_copies : ByteArray := prog_12_method_5_code
def yX10_copies : MethodName := ⟨RX10, "copies", "(III)V"⟩
abbrev cX10_workers : ByteArray := prog_12_method_6_code
def yX10_workers : MethodName := ⟨RX10, "workers", "()I"⟩
abbrev cX10_isWorker : ByteArray := prog_12_method_7_code
def yX10_isWorker : MethodName := ⟨RX10, "isWorker", "(I)Z"⟩
abbrev cX10_place : ByteArray := prog_12_method_8_code
def yX10_place : MethodName := ⟨RX10, "place", "(I)I"⟩
abbrev cX10_isEnded : ByteArray := prog_12_method_9_code
def yX10_isEnded : MethodName := ⟨RX10, "isEnded", "(I)Z"⟩
abbrev cX10_sort : ByteArray := prog_12_method_10_code
def yX10_sort : MethodName := ⟨RX10, "sort", "(II)I"⟩
abbrev cX10_number : ByteArray := prog_12_method_11_code
def yX10_number : MethodName := ⟨RX10, "number", "(II)I"⟩
abbrev cX10_sortNow : ByteArray := prog_12_method_12_code
def yX10_sortNow : MethodName := ⟨RX10, "sortNow", "(I)I"⟩
abbrev cX10_numberNow : ByteArray := prog_12_method_13_code
def yX10_numberNow : MethodName := ⟨RX10, "numberNow", "(I)I"⟩
abbrev cX10_quiet : ByteArray := prog_12_method_14_code
def yX10_quiet : MethodName := ⟨RX10, "quiet", "(I)I"⟩
abbrev cX10_beats : ByteArray := prog_12_method_15_code
def yX10_beats : MethodName := ⟨RX10, "beats", "(I)V"⟩
abbrev cX10_goesOn : ByteArray := prog_12_method_16_code
def yX10_goesOn : MethodName := ⟨RX10, "goesOn", "(I)V"⟩
abbrev cX10_messageAt : ByteArray := prog_12_method_17_code
def yX10_messageAt : MethodName := ⟨RX10, "messageAt", "(II)I"⟩
abbrev cX10_canBe : ByteArray := prog_12_method_18_code
def yX10_canBe : MethodName := ⟨RX10, "canBe", "(I)Z"⟩
abbrev cX10_does : ByteArray := prog_12_method_19_code
def yX10_does : MethodName := ⟨RX10, "does", "(I)V"⟩
abbrev cX10_isHeldUp : ByteArray := prog_12_method_20_code
def yX10_isHeldUp : MethodName := ⟨RX10, "isHeldUp", "(I)Z"⟩
abbrev cX10_can : ByteArray := prog_12_method_21_code
def yX10_can : MethodName := ⟨RX10, "can", "(III)Z"⟩
abbrev cX10_waitsFor : ByteArray := prog_12_method_22_code
def yX10_waitsFor : MethodName := ⟨RX10, "waitsFor", "(I)I"⟩
abbrev cX10_freeToGo : ByteArray := prog_12_method_23_code
def yX10_freeToGo : MethodName := ⟨RX10, "freeToGo", "()I"⟩
abbrev cX10_hard : ByteArray := prog_12_method_24_code
def yX10_hard : MethodName := ⟨RX10, "hard", "()I"⟩
abbrev cX10_isSoft : ByteArray := prog_12_method_25_code
def yX10_isSoft : MethodName := ⟨RX10, "isSoft", "(II)Z"⟩
abbrev cX10_isSlow : ByteArray := prog_12_method_26_code
def yX10_isSlow : MethodName := ⟨RX10, "isSlow", "(I)Z"⟩
abbrev cX10_neighbour : ByteArray := prog_12_method_27_code
def yX10_neighbour : MethodName := ⟨RX10, "neighbour", "(II)I"⟩
abbrev cX10_letsGo : ByteArray := prog_12_method_28_code
def yX10_letsGo : MethodName := ⟨RX10, "letsGo", "(I)V"⟩
abbrev cX10_bits : ByteArray := prog_12_method_29_code
def yX10_bits : MethodName := ⟨RX10, "bits", "(I)I"⟩
abbrev cX10_freedBy : ByteArray := prog_12_method_30_code
def yX10_freedBy : MethodName := ⟨RX10, "freedBy", "(II)I"⟩
abbrev cX10_blocker : ByteArray := prog_12_method_31_code
def yX10_blocker : MethodName := ⟨RX10, "blocker", "(II)I"⟩
abbrev cX10_keepsStall : ByteArray := prog_12_method_32_code
def yX10_keepsStall : MethodName := ⟨RX10, "keepsStall", "(III)V"⟩
abbrev cX10_kindOf : ByteArray := prog_12_method_33_code
def yX10_kindOf : MethodName := ⟨RX10, "kindOf", "(II)I"⟩
abbrev cX10_ticksOnce : ByteArray := prog_12_method_34_code
def yX10_ticksOnce : MethodName := ⟨RX10, "ticksOnce", "()V"⟩
abbrev cX10_ticksOf : ByteArray := prog_12_method_35_code
def yX10_ticksOf : MethodName := ⟨RX10, "ticksOf", "(I)I"⟩
abbrev cX10_ended : ByteArray := prog_12_method_36_code
def yX10_ended : MethodName := ⟨RX10, "ended", "()I"⟩
abbrev cX10_keeps : ByteArray := prog_12_method_37_code
def yX10_keeps : MethodName := ⟨RX10, "keeps", "()V"⟩
abbrev cX10_ticks : ByteArray := prog_12_method_38_code
def yX10_ticks : MethodName := ⟨RX10, "ticks", "(I)I"⟩
abbrev cX10_watch : ByteArray := prog_12_method_39_code
def yX10_watch : MethodName := ⟨RX10, "watch", "()I"⟩
abbrev cX10_free : ByteArray := prog_12_method_40_code
def yX10_free : MethodName := ⟨RX10, "free", "(I)Z"⟩
abbrev cX10_within : ByteArray := prog_12_method_41_code
def yX10_within : MethodName := ⟨RX10, "within", "(ZI)Z"⟩
abbrev cX10_undo : ByteArray := prog_12_method_42_code
def yX10_undo : MethodName := ⟨RX10, "undo", "()I"⟩
abbrev cX10_counted : ByteArray := prog_12_method_43_code
def yX10_counted : MethodName := ⟨RX10, "counted", "(I)I"⟩
abbrev cX10_count : ByteArray := prog_12_method_44_code
def yX10_count : MethodName := ⟨RX10, "count", "(I)I"⟩
abbrev cX10_locks : ByteArray := prog_12_method_45_code
def yX10_locks : MethodName := ⟨RX10, "locks", "(I)I"⟩
abbrev cX10_flag : ByteArray := prog_12_method_46_code
def yX10_flag : MethodName := ⟨RX10, "flag", "(Z)I"⟩
abbrev cX10_worker : ByteArray := prog_12_method_47_code
def yX10_worker : MethodName := ⟨RX10, "worker", "(II)I"⟩
abbrev cX10_step : ByteArray := prog_12_method_48_code
def yX10_step : MethodName := ⟨RX10, "step", "(IIZ)I"⟩
abbrev cX10_holder : ByteArray := prog_12_method_49_code
def yX10_holder : MethodName := ⟨RX10, "holder", "(I)I"⟩
abbrev cX10_pipe : ByteArray := prog_12_method_50_code
def yX10_pipe : MethodName := ⟨RX10, "pipe", "(IZ)I"⟩
abbrev cX10_messages : ByteArray := prog_12_method_51_code
def yX10_messages : MethodName := ⟨RX10, "messages", "(II)I"⟩
abbrev cX10_waits : ByteArray := prog_12_method_52_code
def yX10_waits : MethodName := ⟨RX10, "waits", "(I)I"⟩
abbrev cX10_goesWay : ByteArray := prog_12_method_53_code
def yX10_goesWay : MethodName := ⟨RX10, "goesWay", "(I)V"⟩
abbrev cX10_way : ByteArray := prog_12_method_54_code
def yX10_way : MethodName := ⟨RX10, "way", "(II)I"⟩
abbrev cX10_ring : ByteArray := prog_12_method_55_code
def yX10_ring : MethodName := ⟨RX10, "ring", "(I)I"⟩
abbrev cX10_stall : ByteArray := prog_12_method_56_code
def yX10_stall : MethodName := ⟨RX10, "stall", "(II)I"⟩
abbrev cX10_freed : ByteArray := prog_12_method_57_code
def yX10_freed : MethodName := ⟨RX10, "freed", "(I)I"⟩
abbrev cX10_laysAside : ByteArray := prog_12_method_58_code
def yX10_laysAside : MethodName := ⟨RX10, "laysAside", "()V"⟩
abbrev cX10_later : ByteArray := prog_12_method_59_code
def yX10_later : MethodName := ⟨RX10, "later", "(II)I"⟩
abbrev cX10_ends : ByteArray := prog_12_method_60_code
def yX10_ends : MethodName := ⟨RX10, "ends", "(I)I"⟩
abbrev cX10_told : ByteArray := prog_12_method_61_code
def yX10_told : MethodName := ⟨RX10, "told", "(II)I"⟩
abbrev cX10_areFreed : ByteArray := prog_12_method_62_code
def yX10_areFreed : MethodName := ⟨RX10, "areFreed", "(I)Z"⟩
abbrev cX10_fewest : ByteArray := prog_12_method_63_code
def yX10_fewest : MethodName := ⟨RX10, "fewest", "(Z)I"⟩
abbrev cX10_feed : ByteArray := prog_12_method_64_code
def yX10_feed : MethodName := ⟨RX10, "feed", "(IIIII)I"⟩
abbrev cX10_end : ByteArray := prog_12_method_65_code
def yX10_end : MethodName := ⟨RX10, "end", "(I)I"⟩
abbrev cX10_fault : ByteArray := prog_12_method_66_code
def yX10_fault : MethodName := ⟨RX10, "fault", "(I)I"⟩
abbrev cX10_byteAt : ByteArray := prog_12_method_67_code
def yX10_byteAt : MethodName := ⟨RX10, "byteAt", "(I)I"⟩
abbrev cX10_isLetter : ByteArray := prog_12_method_68_code
def yX10_isLetter : MethodName := ⟨RX10, "isLetter", "(I)Z"⟩
abbrev cX10_isDigit : ByteArray := prog_12_method_69_code
def yX10_isDigit : MethodName := ⟨RX10, "isDigit", "(I)Z"⟩
abbrev cX10_takes : ByteArray := prog_12_method_70_code
def yX10_takes : MethodName := ⟨RX10, "takes", "()V"⟩
abbrev cX10_wrong : ByteArray := prog_12_method_71_code
def yX10_wrong : MethodName := ⟨RX10, "wrong", "()V"⟩
abbrev cX10_also : ByteArray := prog_12_method_72_code
def yX10_also : MethodName := ⟨RX10, "also", "(II)V"⟩
abbrev cX10_isGood : ByteArray := prog_12_method_73_code
def yX10_isGood : MethodName := ⟨RX10, "isGood", "()Z"⟩
abbrev cX10_hasWord : ByteArray := prog_12_method_74_code
def yX10_hasWord : MethodName := ⟨RX10, "hasWord", "(J)Z"⟩
abbrev cX10_hasSign : ByteArray := prog_12_method_75_code
def yX10_hasSign : MethodName := ⟨RX10, "hasSign", "(I)Z"⟩
abbrev cX10_numeral : ByteArray := prog_12_method_76_code
def yX10_numeral : MethodName := ⟨RX10, "numeral", "(II)I"⟩
abbrev cX10_sortOf : ByteArray := prog_12_method_77_code
def yX10_sortOf : MethodName := ⟨RX10, "sortOf", "(J)I"⟩
abbrev cX10_numberOf : ByteArray := prog_12_method_78_code
def yX10_numberOf : MethodName := ⟨RX10, "numberOf", "(II)I"⟩
abbrev cX10_readsWorker : ByteArray := prog_12_method_79_code
def yX10_readsWorker : MethodName := ⟨RX10, "readsWorker", "(I)V"⟩
abbrev cX10_readsLine : ByteArray := prog_12_method_80_code
def yX10_readsLine : MethodName := ⟨RX10, "readsLine", "()V"⟩
abbrev cX10_judges : ByteArray := prog_12_method_81_code
def yX10_judges : MethodName := ⟨RX10, "judges", "()V"⟩
abbrev cX10_text : ByteArray := prog_12_method_82_code
def yX10_text : MethodName := ⟨RX10, "text", "()I"⟩
abbrev cX10_image : ByteArray := prog_12_method_83_code
def yX10_image : MethodName := ⟨RX10, "image", "(I)Z"⟩
abbrev cX10_again : ByteArray := prog_12_method_84_code
def yX10_again : MethodName := ⟨RX10, "again", "(I)Z"⟩
def RJ6 : String := "java/lang/Integer"
def TJ6 : u_T := fun k => match k with
  | _ => ("", "", "", false)
def tyJ6 : Nat → FieldType := fun k => match k with
  | _ => .int
theorem nmJ6 : ∀ a, a < 0 → ∀ b, b < 0 → a ≠ b → (TJ6 a).2.1 ≠ (TJ6 b).2.1 := by decide +kernel
theorem tyJ6_ok : ∀ k, k < 0 → parseFieldDescriptor (TJ6 k).2.2.1 = some (tyJ6 k) := by decide +kernel
abbrev cJ6_numberOfTrailingZeros_0f7a4 : ByteArray := prog_13_method_48_code
def yJ6_numberOfTrailingZeros_0f7a4 : MethodName := ⟨RJ6, "numberOfTrailingZeros", "(I)I"⟩
abbrev cJ6_bitCount_0f7a4 : ByteArray := prog_13_method_49_code
def yJ6_bitCount_0f7a4 : MethodName := ⟨RJ6, "bitCount", "(I)I"⟩
def RJ9 : String := "java/lang/Math"
def TJ9 : u_T := fun k => match k with
  | _ => ("", "", "", false)
def tyJ9 : Nat → FieldType := fun k => match k with
  | _ => .int
theorem nmJ9 : ∀ a, a < 0 → ∀ b, b < 0 → a ≠ b → (TJ9 a).2.1 ≠ (TJ9 b).2.1 := by decide +kernel
theorem tyJ9_ok : ∀ k, k < 0 → parseFieldDescriptor (TJ9 k).2.2.1 = some (tyJ9 k) := by decide +kernel
abbrev cJ9_min_7cf53 : ByteArray := prog_14_method_69_code
def yJ9_min_7cf53 : MethodName := ⟨RJ9, "min", "(II)I"⟩
def RJ0 : String := "java/lang/String"
def TJ0 : u_T := fun k => match k with
  | _ => ("", "", "", false)
def tyJ0 : Nat → FieldType := fun k => match k with
  | _ => .int
theorem nmJ0 : ∀ a, a < 0 → ∀ b, b < 0 → a ≠ b → (TJ0 a).2.1 ≠ (TJ0 b).2.1 := by decide +kernel
theorem tyJ0_ok : ∀ k, k < 0 → parseFieldDescriptor (TJ0 k).2.2.1 = some (tyJ0 k) := by decide +kernel
abbrev cJ0_length_8abf5 : ByteArray := prog_15_method_54_code
def yJ0_length_8abf5 : MethodName := ⟨RJ0, "length", "()I"⟩
abbrev cJ0_charAt_5068e : ByteArray := prog_15_method_56_code
def yJ0_charAt_5068e : MethodName := ⟨RJ0, "charAt", "(I)C"⟩
abbrev cJ0_coder_7d493 : ByteArray := prog_15_method_152_code
def yJ0_coder_7d493 : MethodName := ⟨RJ0, "coder", "()B"⟩
abbrev cJ0_isLatin1_aae02 : ByteArray := prog_15_method_154_code
def yJ0_isLatin1_aae02 : MethodName := ⟨RJ0, "isLatin1", "()Z"⟩
abbrev cJ0_checkIndex_df160 : ByteArray := prog_15_method_155_code
def yJ0_checkIndex_df160 : MethodName := ⟨RJ0, "checkIndex", "(II)V"⟩
def RJ1 : String := "java/lang/StringLatin1"
def TJ1 : u_T := fun k => match k with
  | _ => ("", "", "", false)
def tyJ1 : Nat → FieldType := fun k => match k with
  | _ => .int
theorem nmJ1 : ∀ a, a < 0 → ∀ b, b < 0 → a ≠ b → (TJ1 a).2.1 ≠ (TJ1 b).2.1 := by decide +kernel
theorem tyJ1_ok : ∀ k, k < 0 → parseFieldDescriptor (TJ1 k).2.2.1 = some (tyJ1 k) := by decide +kernel
abbrev cJ1_charAt_3b067 : ByteArray := prog_16_method_2_code
def yJ1_charAt_3b067 : MethodName := ⟨RJ1, "charAt", "([BI)C"⟩
def RJ2 : String := "java/lang/StringUTF16"
def TJ2 : u_T := fun k => match k with
  | _ => ("", "", "", false)
def tyJ2 : Nat → FieldType := fun k => match k with
  | _ => .int
theorem nmJ2 : ∀ a, a < 0 → ∀ b, b < 0 → a ≠ b → (TJ2 a).2.1 ≠ (TJ2 b).2.1 := by decide +kernel
theorem tyJ2_ok : ∀ k, k < 0 → parseFieldDescriptor (TJ2 k).2.2.1 = some (tyJ2 k) := by decide +kernel
abbrev cJ2_getChar_3b067 : ByteArray := prog_17_method_5_code
def yJ2_getChar_3b067 : MethodName := ⟨RJ2, "getChar", "([BI)C"⟩
abbrev cJ2_length_9d52b : ByteArray := prog_17_method_6_code
def yJ2_length_9d52b : MethodName := ⟨RJ2, "length", "([B)I"⟩
abbrev cJ2_charAt_3b067 : ByteArray := prog_17_method_83_code
def yJ2_charAt_3b067 : MethodName := ⟨RJ2, "charAt", "([BI)C"⟩
abbrev cJ2_checkIndex_2214a : ByteArray := prog_17_method_91_code
def yJ2_checkIndex_2214a : MethodName := ⟨RJ2, "checkIndex", "(I[B)V"⟩
def RJ10 : String := "java/lang/System"
def TJ10 : u_T := fun k => match k with
  | _ => ("", "", "", false)
def tyJ10 : Nat → FieldType := fun k => match k with
  | _ => .int
theorem nmJ10 : ∀ a, a < 0 → ∀ b, b < 0 → a ≠ b → (TJ10 a).2.1 ≠ (TJ10 b).2.1 := by decide +kernel
theorem tyJ10_ok : ∀ k, k < 0 → parseFieldDescriptor (TJ10 k).2.2.1 = some (tyJ10 k) := by decide +kernel
def RJ7 : String := "java/util/Arrays"
def TJ7 : u_T := fun k => match k with
  | _ => ("", "", "", false)
def tyJ7 : Nat → FieldType := fun k => match k with
  | _ => .int
theorem nmJ7 : ∀ a, a < 0 → ∀ b, b < 0 → a ≠ b → (TJ7 a).2.1 ≠ (TJ7 b).2.1 := by decide +kernel
theorem tyJ7_ok : ∀ k, k < 0 → parseFieldDescriptor (TJ7 k).2.2.1 = some (tyJ7 k) := by decide +kernel
abbrev cJ7_fill_53178 : ByteArray := prog_19_method_103_code
def yJ7_fill_53178 : MethodName := ⟨RJ7, "fill", "([II)V"⟩
def RJ3 : String := "jdk/internal/util/Preconditions"
def TJ3 : u_T := fun k => match k with
  | _ => ("", "", "", false)
def tyJ3 : Nat → FieldType := fun k => match k with
  | _ => .int
theorem nmJ3 : ∀ a, a < 0 → ∀ b, b < 0 → a ≠ b → (TJ3 a).2.1 ≠ (TJ3 b).2.1 := by decide +kernel
theorem tyJ3_ok : ∀ k, k < 0 → parseFieldDescriptor (TJ3 k).2.2.1 = some (tyJ3 k) := by decide +kernel
abbrev cJ3_checkIndex_8e157 : ByteArray := prog_20_method_11_code
def yJ3_checkIndex_8e157 : MethodName := ⟨RJ3, "checkIndex", "(IILjava/util/function/BiFunction;)I"⟩
def RL : String := "HangWatchLaw"
abbrev cL_law : ByteArray := code
def yL_law : MethodName := ⟨RL, "law", "([I)Z"⟩
abbrev vwCl : List vw_C := [(RX0, TX0, 4), (RX1, TX1, 8), (RX2, TX2, 11), (RX3, TX3, 11), (RX4, TX4, 4), (RX5, TX5, 2), (RX6, TX6, 3), (RX7, TX7, 13), (RX8, TX8, 6), (RX9, TX9, 7), (RX10, TX10, 22)]
end
section
/-! the words of the tables that pass along every call -/
def gw (w : Cond) : Bool := goodWord w || (match w with | .methodLinkNest _ _ _ _ => true | .arrayOver (.object _) => true | _ => false)
def TB : List Cond := lw_tbl.filter gw
def En (s : State) : Prop := ∀ w ∈ TB, w.before #[] s = true
theorem tb_in {w : Cond} (h : w ∈ lw_tbl) (hg : gw w = true) : w ∈ TB := List.mem_filter.mpr ⟨h, hg⟩
theorem gw_of {w : Cond} (h : w ∈ TB) : ((w.onTables && w.keeps) = true ∨ ∃ ty, w = .arrayClass ty) ∨ (∃ a i x h, w = .methodLinkNest a i x h) ∨ ∃ C, w = .arrayOver (.object C) := by
  have h := (List.mem_filter.mp h).2
  unfold gw at h
  cases hgw : goodWord w with
  | true => exact Or.inl (good_of_word hgw)
  | false =>
    rw [hgw, Bool.false_or] at h
    split at h
    · exact Or.inr (Or.inl ⟨_, _, _, _, rfl⟩)
    · exact Or.inr (Or.inr ⟨_, rfl⟩)
    · cases h
theorem En.here {s U : State} (h : En s) (hW : s.WarmedH U.vm) {w : Cond} (hw : w ∈ TB) (A : Array Value) : w.before A U = true := by
  rcases gw_of hw with hg | ⟨a, i, x, h0, rfl⟩ | ⟨C, rfl⟩
  · exact word_at hW hg (h w hw)
  · exact va_Nw.use rfl (va_Nw.warmM hW (h _ hw))
  · exact va_AO.use (va_AO.moved hW.alike (va_AO.of (h _ hw)))
theorem En.warm {s U : State} (h : En s) (hW : s.WarmedH U.vm) : En U := fun _ hw => h.here hW hw #[]
theorem En.use {s : State} (h : En s) {w : Cond} (hw : w ∈ TB) {A : Array Value} : w.before A s = true := h.here (State.WarmedH.refl s) hw A
theorem En.same {u U : State} (h : En u) (hv : u.vm = U.vm) : En U := h.warm (by rw [← hv]; exact State.WarmedH.refl u)
theorem En.of {s : State} {A : Array Value} (h : ∀ w ∈ lw_tbl, w.before A s = true) : En s := by
  intro w hw
  have h1 := h w (List.mem_filter.mp hw).1
  rcases gw_of hw with hg | ⟨a, i, x, h0, rfl⟩ | ⟨C, rfl⟩
  · exact word_at (State.WarmedH.refl s) hg h1
  · exact va_Nw.of rfl h1
  · exact va_AO.use (va_AO.of h1)
/-! pure programs: a value or none -/
def ix {α : Type} (i : Int32) (n : Nat) (k : Option α) : Option α := if i < 0 ∨ n ≤ i.toNatClampNeg then none else k
def nz {α : Type} (d : Int32) (k : Option α) : Option α := if d = 0 then none else k
def nm {α β : Type} (e : α) (k : α → Option β) : Option β := k e
def bI (b : Bool) : Int32 := if b then 1 else 0
theorem ix_some {α : Type} {i : Int32} {n : Nat} {k : Option α} {r : α} (h : ix i n k = some r) : vp_in i n ∧ k = some r := by
  unfold ix at h
  split at h
  · cases h
  · rename_i q; exact ⟨q, h⟩
theorem ix_in {α : Type} {i : Int32} {n : Nat} {k : Option α} (h : vp_in i n) : ix i n k = k := if_neg h
theorem nz_some {α : Type} {d : Int32} {k : Option α} {r : α} (h : nz d k = some r) : ¬ d = 0 ∧ k = some r := by
  unfold nz at h
  split at h
  · cases h
  · rename_i q; exact ⟨q, h⟩
theorem nm_some {α β : Type} {e : α} {k : α → Option β} {r : β} (h : nm e k = some r) : ∃ x, x = e ∧ k x = some r := ⟨e, rfl, h⟩
theorem bd_some {α β : Type} {x : Option α} {f : α → Option β} {r : β} (h : x.bind f = some r) : ∃ a, x = some a ∧ f a = some r := by
  cases x with
  | none => cases h
  | some a => exact ⟨a, rfl, h⟩
theorem if_t {α : Type} {c : Prop} {i : Decidable c} {a b r : α} (h : @ite α c i a b = r) (hc : c) : a = r := by rw [if_pos hc] at h; exact h
theorem if_f {α : Type} {c : Prop} {i : Decidable c} {a b r : α} (h : @ite α c i a b = r) (hc : ¬ c) : b = r := by rw [if_neg hc] at h; exact h
theorem bI_narrow (b : Bool) : narrow .boolean (.int (bI b)) = .int (bI b) := by cases b <;> rfl
def it {σ ε : Type} (f : σ → Option (σ ⊕ ε)) : Nat → σ → Option ε
  | 0, _ => none
  | n + 1, s => (f s).bind fun o => match o with
    | .inl s' => it f n s'
    | .inr e => some e
theorem it_succ {σ ε : Type} {f : σ → Option (σ ⊕ ε)} {n : Nat} {s : σ} {e : ε} (h : it f (n + 1) s = some e) : (∃ s', f s = some (.inl s') ∧ it f n s' = some e) ∨ f s = some (.inr e) := by
  obtain ⟨o, h1, h2⟩ := bd_some h
  cases o with
  | inl s' => exact Or.inl ⟨s', h1, h2⟩
  | inr e' => cases h2; exact Or.inr h1
theorem it_mono {σ ε : Type} {f : σ → Option (σ ⊕ ε)} {e : ε} : ∀ {n : Nat} {s : σ}, it f n s = some e → it f (n + 1) s = some e
  | 0, _, h => by cases h
  | n + 1, s, h => by
    rcases it_succ h with ⟨s', h1, h2⟩ | h1
    · show (f s).bind _ = some e
      rw [h1]
      exact it_mono h2
    · show (f s).bind _ = some e
      rw [h1]
      rfl
theorem it_le {σ ε : Type} {f : σ → Option (σ ⊕ ε)} {e : ε} {n m : Nat} {s : σ} (hnm : n ≤ m) (h : it f n s = some e) : it f m s = some e := by
  induction hnm with
  | refl => exact h
  | step _ ih => exact it_mono ih
noncomputable def itr {σ ε : Type} (f : σ → Option (σ ⊕ ε)) (s : σ) : Option ε := @dite (Option ε) (∃ (n : Nat) (e : ε), it f n s = some e) (Classical.propDecidable _) (fun h => some h.choose_spec.choose) (fun _ => none)
theorem itr_ex {σ ε : Type} {f : σ → Option (σ ⊕ ε)} {s : σ} {e : ε} (h : itr f s = some e) : ∃ n : Nat, it f n s = some e := by
  unfold itr at h
  split at h
  · rename_i q
    cases h
    exact ⟨_, q.choose_spec.choose_spec⟩
  · cases h
theorem itr_of {σ ε : Type} {f : σ → Option (σ ⊕ ε)} {s : σ} {e : ε} {n : Nat} (h : it f n s = some e) : itr f s = some e := by
  unfold itr
  have q : ∃ (n : Nat) (e : ε), it f n s = some e := ⟨n, e, h⟩
  rw [dif_pos q]
  have h2 := q.choose_spec.choose_spec
  have h3 := it_le (Nat.le_max_left n q.choose) h
  have h4 := it_le (Nat.le_max_right n q.choose) h2
  exact h4.symm.trans h3
theorem itr_inl {σ ε : Type} {f : σ → Option (σ ⊕ ε)} {s s' : σ} (h : f s = some (.inl s')) : itr f s = itr f s' := by
  cases h1 : itr f s' with
  | some e =>
    obtain ⟨n, hn⟩ := itr_ex h1
    exact itr_of (n := n + 1) (by show (f s).bind _ = some e; rw [h]; exact hn)
  | none =>
    cases h2 : itr f s with
    | none => rfl
    | some e =>
      obtain ⟨n, hn⟩ := itr_ex h2
      cases n with
      | zero => cases hn
      | succ n =>
        rcases it_succ hn with ⟨s2, h3, h4⟩ | h3
        · rw [h] at h3
          cases h3
          rw [itr_of h4] at h1
          cases h1
        · rw [h] at h3
          cases h3
theorem itr_inr {σ ε : Type} {f : σ → Option (σ ⊕ ε)} {s : σ} {e : ε} (h : f s = some (.inr e)) : itr f s = some e := itr_of (n := 1) (by show (f s).bind _ = some e; rw [h]; rfl)
/-! worlds -/
def TY (k : Nat → ClassId) : List (ClassId × FieldType) := [(k 0, .int), (k 1, .byte), (k 2, .boolean), (k 3, .object "HangWatch$Scene"), (k 4, .object "HangWatch$Stalls"), (k 5, .object "HangWatch$World")]
def wA (ws : va_W) : Nat → Prop := fun q => q ∈ ws.map Prod.fst
theorem wA_of {ws : va_W} {k : Nat} {q : Nat × va_E} (h : ws[k]? = some q) : wA ws q.1 := List.mem_map.mpr ⟨q, List.mem_of_getElem? h, rfl⟩
theorem wA_ex {ws : va_W} {a : Nat} (h : wA ws a) : ∃ (k : Nat) (q : Nat × va_E), ws[k]? = some q ∧ q.1 = a := by
  obtain ⟨q, h1, h2⟩ := List.mem_map.mp h
  obtain ⟨k, hk⟩ := List.getElem?_of_mem h1
  exact ⟨k, q, hk, h2⟩
theorem va_D.own {A : Nat → Prop} {ws : va_W} (h : va_D A ws) : va_D (wA ws) ws := ⟨h.1, fun _ _ hk => wA_of hk⟩
def Wo (D : va_G) (A : Nat → Prop) (H0 : Heap) (ws : va_W) (H : Heap) (locs : List Loc) : Prop := va_P D vwCl ws H ∧ va_D A ws ∧ va_S A H0 H locs
/-- what else is taken along: said of cells that no method may change -/
abbrev ZT : Type := (Nat → Prop) → State → Prop
def ZOK (Z : ZT) : Prop := (∀ (A B : Nat → Prop) (U : State), (∀ q, B q → A q) → Z A U → Z B U) ∧ ∀ (A : Nat → Prop) (u U : State), u.WarmedH U.vm → (∀ q : Nat, q < u.heap.size → ¬ A q → U.heap[q]? = u.heap[q]?) → Z A u → Z A U
def Pw (D : va_G) (k : Nat → ClassId) (Z : ZT) (as : List Value) (ws : va_W) : Array Value → State → Prop := va_Pc as (fun U => En U ∧ va_K D vwCl (TY k) U ∧ va_P D vwCl ws U.heap ∧ va_D (wA ws) ws ∧ Z (wA ws) U)
theorem Pw.blind {D : va_G} {k : Nat → ClassId} {Z : ZT} (hZ : ZOK Z) {as : List Value} {ws : va_W} : FrameBlind (Pw D k Z as ws) := fun a U g mk q => by
  obtain ⟨q0, qE, qK, qP, qD, qZ⟩ := q
  exact ⟨q0, qE.same rfl, va_K.moved (u := U) (U := U.calling g mk a) (Vm.Alike.refl U.vm) qK, qP, qD, hZ.2 _ U _ (State.WarmedH.refl U) (fun _ _ _ => rfl) qZ⟩
def Qm (D : va_G) (ov : Option Value) (ws ws' : va_W) : Array Value → State → Outcome → State → Prop := fun _ st oc t => oc = .returned ov ∧ va_P D vwCl ws' t.heap ∧ va_F (wA ws) st t
def Qr (ov : Option Value) : Array Value → State → Outcome → State → Prop := fun _ st oc t => oc = .returned ov ∧ t.heap = st.heap
abbrev rmz (fr lo : Nat) : Room := { frames := fr, cells := 0, slots := 0, locals := lo }
def CM (l : Launch) (D : va_G) (k : Nat → ClassId) (Z : ZT) (y : MethodName) (cc : ByteArray) (mL : Nat) (ret : Option FieldType) (fr lo : Nat) (as : List Value) (ov : Option Value) (ws ws' : va_W) : Prop :=
  Met l y [.code y cc mL ret] (rmz fr lo) (Pw D k Z as ws) (Qm D ov ws ws') 0 0 (wA ws)
def CR (l : Launch) (D : va_G) (k : Nat → ClassId) (Z : ZT) (y : MethodName) (cc : ByteArray) (mL : Nat) (ret : Option FieldType) (fr lo : Nat) (as : List Value) (ov : Option Value) (ws : va_W) : Prop :=
  Met l y [.code y cc mL ret] (rmz fr lo) (Pw D k Z as ws) (Qr ov) 0 0 (fun _ => False)
/-- what a walk has at hand -/
def Cx (p : Program) (s : State) (m : MethodId) (meth : Method) (c : Code) (D : va_G) (k : Nat → ClassId) (Z : ZT) (A : Nat → Prop) (cc : ByteArray) (mL : Nat) (ret : Option FieldType) (own : String) : Prop :=
  p.tables.exec = Jvm.exec ∧ c.code = cc ∧ meth.sig.returnType = ret ∧ meth.locks = false ∧ c.maxLocals = mL ∧ s.vm.findClass own = some m.cls ∧ En s ∧ va_K D vwCl (TY k) s ∧ Z A s ∧ ZOK Z
theorem CM.start {l : Launch} {D : va_G} {k : Nat → ClassId} {Z : ZT} {y : MethodName} {cc : ByteArray} {mL : Nat} {ret : Option FieldType} {fr lo : Nat} {as : List Value} {ov : Option Value} {ws ws' : va_W} (hZ : ZOK Z) (hy : plainName y.cls = true) (hn : (lg_sl as).length ≤ mL)
    (body : ∀ (p : Program) (e : Env) (s : State) (m : MethodId) (below : List Frame) (meth : Method) (c : Code) (ls : Array Slot), Cx p s m meth c D k Z (wA ws) cc mL ret y.cls → lv_has ls mL (lv_args 0 as) → Wo D (wA ws) s.heap ws s.heap [] →
      W p l e (rmz fr lo) s m as.toArray below meth c s.heap [] 0 0 (MQ below (Qm D ov ws ws') as.toArray s 0 0 (wA ws)) (F0 m 0 ls [])) : CM l D k Z y cc mL ret fr lo as ov ws ws' := by
  refine Met.ofW (cc := cc) (maxL := mL) (ret := ret) hy rfl ?_
  intro p e s m args below meth c s₁ B hml hv
  obtain ⟨rfl, hE, hK, hP, hD, hz⟩ := hv
  rw [lg_entry_eq]
  exact body p e s m below meth c _ ⟨B.exec, B.bytes, B.returns, B.notSynchronized, hml, findClass_of_methodNamed B.named, hE, hK, hz, hZ⟩ (lv_entry as hn) ⟨hP, hD, va_S.rf⟩
theorem CR.start {l : Launch} {D : va_G} {k : Nat → ClassId} {Z : ZT} {y : MethodName} {cc : ByteArray} {mL : Nat} {ret : Option FieldType} {fr lo : Nat} {as : List Value} {ov : Option Value} {ws : va_W} (hZ : ZOK Z) (hy : plainName y.cls = true) (hn : (lg_sl as).length ≤ mL)
    (body : ∀ (p : Program) (e : Env) (s : State) (m : MethodId) (below : List Frame) (meth : Method) (c : Code) (ls : Array Slot), Cx p s m meth c D k Z (wA ws) cc mL ret y.cls → lv_has ls mL (lv_args 0 as) → Wo D (wA ws) s.heap ws s.heap [] →
      W p l e (rmz fr lo) s m as.toArray below meth c s.heap [] 0 0 (MQ below (Qr ov) as.toArray s 0 0 (fun _ => False)) (F0 m 0 ls [])) : CR l D k Z y cc mL ret fr lo as ov ws := by
  refine Met.ofW (cc := cc) (maxL := mL) (ret := ret) hy rfl ?_
  intro p e s m args below meth c s₁ B hml hv
  obtain ⟨rfl, hE, hK, hP, hD, hz⟩ := hv
  rw [lg_entry_eq]
  exact body p e s m below meth c _ ⟨B.exec, B.bytes, B.returns, B.notSynchronized, hml, findClass_of_methodNamed B.named, hE, hK, hz, hZ⟩ (lv_entry as hn) ⟨hP, hD, va_S.rf⟩
/-! a part of a world replaced in place -/
def rep : va_W → List Nat → va_W → va_W
  | ws, i :: is, x :: xs => rep (ws.set i x) is xs
  | ws, _, _ => ws
theorem rep_at : ∀ (is : List Nat) (ws w1 : va_W), is.length = w1.length → va_nd is = true → ∀ (k : Nat) (q : Nat × va_E), (rep ws is w1)[k]? = some q → (∃ j : Nat, is[j]? = some k ∧ w1[j]? = some q) ∨ (k ∉ is ∧ ws[k]? = some q)
  | [], ws, w1, _, _, k, q, h => Or.inr ⟨List.not_mem_nil, by simpa [rep] using h⟩
  | i :: is, ws, [], hl, _, _, _, _ => by simp at hl
  | i :: is, ws, x :: xs, hl, hn, k, q, h => by
    simp only [va_nd, Bool.and_eq_true, decide_eq_true_eq] at hn
    rcases rep_at is (ws.set i x) xs (by simpa using hl) hn.2 k q h with ⟨j, h1, h2⟩ | ⟨h1, h2⟩
    · exact Or.inl ⟨j + 1, by simpa using h1, by simpa using h2⟩
    · by_cases hki : k = i
      · subst hki
        have hlt : k < ws.length := by
          have h3 := (List.getElem?_eq_some_iff.mp h2).1
          simpa using h3
        rw [List.getElem?_set_self hlt] at h2
        exact Or.inl ⟨0, rfl, h2⟩
      · rw [List.getElem?_set_ne (Ne.symm hki)] at h2
        exact Or.inr ⟨fun z => by rcases List.mem_cons.mp z with z | z <;> contradiction, h2⟩
theorem sub_at {ws wc : va_W} {is : List Nat} (hC : is.map (fun i => ws[i]?) = wc.map some) {j : Nat} {q : Nat × va_E} (h : wc[j]? = some q) : ∃ i, is[j]? = some i ∧ ws[i]? = some q := by
  have h1 : (is.map (fun i => ws[i]?))[j]? = some (some q) := by rw [hC, List.getElem?_map, h]; rfl
  rw [List.getElem?_map] at h1
  cases hi : is[j]? with
  | none => rw [hi] at h1; cases h1
  | some i => rw [hi] at h1; exact ⟨i, rfl, Option.some.inj h1⟩
theorem rep_ok {A : Nat → Prop} {D : va_G} {ws wc w1 : va_W} {H H1 : Heap} (hP : va_P D vwCl ws H) (hD : va_D A ws) (is : List Nat) (hC : is.map (fun i => ws[i]?) = wc.map some) (hn : va_nd is = true) (ha : w1.map Prod.fst = wc.map Prod.fst)
    (hk : ∀ q : Nat, q < H.size → ¬ wA wc q → H1[q]? = H[q]?) (hP1 : va_P D vwCl w1 H1) : va_P D vwCl (rep ws is w1) H1 ∧ va_D A (rep ws is w1) := by
  have hl : is.length = w1.length := by
    have h1 := congrArg List.length hC
    have h2 := congrArg List.length ha
    simp only [List.length_map] at h1 h2
    omega
  have adr : ∀ (k : Nat) (q : Nat × va_E), (rep ws is w1)[k]? = some q → ∃ q0 : Nat × va_E, ws[k]? = some q0 ∧ q0.1 = q.1 := by
    intro k q hq
    rcases rep_at is ws w1 hl hn k q hq with ⟨j, h1, h2⟩ | ⟨-, h2⟩
    · have h3 : (wc.map Prod.fst)[j]? = some q.1 := by rw [← ha, List.getElem?_map, h2]; rfl
      rw [List.getElem?_map] at h3
      cases h4 : wc[j]? with
      | none => rw [h4] at h3; cases h3
      | some q0 =>
        rw [h4] at h3
        obtain ⟨i, h5, h6⟩ := sub_at hC h4
        rw [h1] at h5
        cases h5
        exact ⟨q0, h6, Option.some.inj h3⟩
    · exact ⟨q, h2, rfl⟩
  refine ⟨fun k q hq => ?_, ⟨fun i j x y hi hj hxy => ?_, fun k q hq => ?_⟩⟩
  · rcases rep_at is ws w1 hl hn k q hq with ⟨j, h1, h2⟩ | ⟨h1, h2⟩
    · exact hP1 j q h2
    · have h3 := hP k q h2
      refine h3.kept (hk q.1 h3.lt (fun z => ?_))
      obtain ⟨j, q1, h4, h5⟩ := wA_ex z
      obtain ⟨i, h6, h7⟩ := sub_at hC h4
      have h8 := hD.1 i k q1 q h7 h2 h5
      subst h8
      exact h1 (List.mem_of_getElem? h6)
  · obtain ⟨x0, h1, h2⟩ := adr i x hi
    obtain ⟨y0, h3, h4⟩ := adr j y hj
    exact hD.1 i j x0 y0 h1 h3 (h2.trans (hxy.trans h4.symm))
  · obtain ⟨q0, h1, h2⟩ := adr k q hq
    rw [← h2]
    exact hD.2 k q0 h1
section BW
variable {p : Program} {l : Launch} {e : Env} {R : Room} {s : State} {m : MethodId} {args : Array Value} {below : List Frame} {meth : Method} {c : Code} {H : Heap} {locs : List Loc} {cells slots : Nat} {Q : State → Prop}
variable {D : va_G} {k : Nat → ClassId} {Z : ZT} {cc : ByteArray} {mL : Nat} {ret : Option FieldType} {own : String} {A : Nat → Prop} {ws ws' : va_W} {pc a : Nat} {ls : Array Slot} {rest : List Value}
theorem r_top {x y : Value} (h : y = x) (kk : W p l e R s m args below meth c H locs cells slots Q (F0 m pc ls (y :: rest))) : W p l e R s m args below meth c H locs cells slots Q (F0 m pc ls (x :: rest)) := by subst h; exact kk
theorem r_get {C : String} {T : u_T} {N ci index : Nat} (X : Cx p s m meth c D k Z A cc mL ret own) (hin : ∀ w ∈ u_ws C T N, w ∈ TB) (G : Wo D A s.heap ws H locs) (q0 : Nat) {fs : List Value} (he : ws[q0]? = some (a, .inr (ci, fs))) (hc : vwCl[ci]? = some (C, T, N)) (j : Nat) (hj : j < N) (hlink : Cond.fieldLink own index (T j).1 (T j).2.1 (T j).2.2.1 ∈ TB) {v : Value} (hv : fs[j]? = some v) (hdg : decode cc pc = .ok (.getfield index, 3))
    (kk : W p l e R s m args below meth c H locs cells slots Q (F0 m (pc + 3) ls (v :: rest))) : W p l e R s m args below meth c H locs cells slots Q (F0 m pc ls (.ref a :: rest)) :=
  va_get X.1 X.2.1 (Ts := TB) (fun w hw => X.2.2.2.2.2.2.1.use hw) hin X.2.2.2.2.2.1 X.2.2.2.2.2.2.2.1 G.1 q0 he hc j hj (X.2.2.2.2.2.2.1.use hlink) (fun _ h => h) hv hdg kk
theorem r_put {C : String} {T : u_T} {N ci index : Nat} (X : Cx p s m meth c D k Z A cc mL ret own) (hin : ∀ w ∈ u_ws C T N, w ∈ TB) (ty0 : Nat → FieldType) (hty : ∀ k, k < N → parseFieldDescriptor (T k).2.2.1 = some (ty0 k)) (hnm : ∀ a, a < N → ∀ b, b < N → a ≠ b → (T a).2.1 ≠ (T b).2.1) (G : Wo D A s.heap ws H locs) (q0 : Nat) {fs : List Value} (he : ws[q0]? = some (a, .inr (ci, fs))) (hc : vwCl[ci]? = some (C, T, N)) (j : Nat) (hj : j < N) (hlink : Cond.fieldLink own index (T j).1 (T j).2.1 (T j).2.2.1 ∈ TB) (hfin : (T j).2.2.2 = false) {v : Value} (hn : narrow (ty0 j) v = v) (hfit : fits (ty0 j) v = true) (hl : j < fs.length) (hw : ws.set q0 (a, .inr (ci, fs.set j v)) = ws') (hdg : decode cc pc = .ok (.putfield index, 3))
    (kk : ∀ (H1 : Heap) (locs1 : List Loc), Wo D A s.heap ws' H1 locs1 → W p l e R s m args below meth c H1 locs1 cells slots Q (F0 m (pc + 3) ls rest)) : W p l e R s m args below meth c H locs cells slots Q (F0 m pc ls (v :: .ref a :: rest)) := by
  subst hw
  exact va_put X.1 X.2.1 (Ts := TB) (fun w hw => X.2.2.2.2.2.2.1.use hw) hin ty0 hty hnm X.2.2.2.2.2.1 X.2.2.2.2.2.2.2.1 G.1 G.2.1 G.2.2 q0 he hc j hj (X.2.2.2.2.2.2.1.use hlink) (fun _ h => h) hfin (hty j hj) hn hfit hl hdg (fun H1 locs1 h1 h2 h3 => kk H1 locs1 ⟨h1, h2, h3⟩)
theorem r_iald (X : Cx p s m meth c D k Z A cc mL ret own) (G : Wo D A s.heap ws H locs) (q0 : Nat) {n : Nat} {f : Nat → Int32} (ha : ws[q0]? = some (a, .inl (k 0, n, .inl f))) {i : Int32} (hin : vp_in i n) (hdg : decode cc pc = .ok (.iaload, 1))
    (kk : W p l e R s m args below meth c H locs cells slots Q (F0 m (pc + 1) ls (.int (f i.toNatClampNeg) :: rest))) : W p l e R s m args below meth c H locs cells slots Q (F0 m pc ls (.int i :: .ref a :: rest)) :=
  va_iald X.1 X.2.1 X.2.2.2.2.2.2.2.1 G.1 q0 0 ha rfl hin hdg kk
theorem r_bald (X : Cx p s m meth c D k Z A cc mL ret own) (G : Wo D A s.heap ws H locs) (q0 : Nat) {n : Nat} {f : Nat → Int32} (ha : ws[q0]? = some (a, .inl (k 1, n, .inl f))) {i : Int32} (hin : vp_in i n) (hdg : decode cc pc = .ok (.baload, 1))
    (kk : W p l e R s m args below meth c H locs cells slots Q (F0 m (pc + 1) ls (.int (f i.toNatClampNeg) :: rest))) : W p l e R s m args below meth c H locs cells slots Q (F0 m pc ls (.int i :: .ref a :: rest)) :=
  va_bald X.1 X.2.1 X.2.2.2.2.2.2.2.1 G.1 q0 1 ha rfl hin hdg kk
theorem r_zald (X : Cx p s m meth c D k Z A cc mL ret own) (G : Wo D A s.heap ws H locs) (q0 : Nat) {n : Nat} {f : Nat → Int32} (ha : ws[q0]? = some (a, .inl (k 2, n, .inl f))) {i : Int32} (hin : vp_in i n) (hdg : decode cc pc = .ok (.baload, 1))
    (kk : W p l e R s m args below meth c H locs cells slots Q (F0 m (pc + 1) ls (.int (f i.toNatClampNeg) :: rest))) : W p l e R s m args below meth c H locs cells slots Q (F0 m pc ls (.int i :: .ref a :: rest)) :=
  va_zald X.1 X.2.1 X.2.2.2.2.2.2.2.1 G.1 q0 2 ha rfl hin hdg kk
theorem r_iast (X : Cx p s m meth c D k Z A cc mL ret own) (G : Wo D A s.heap ws H locs) (q0 : Nat) {n : Nat} {f : Nat → Int32} (ha : ws[q0]? = some (a, .inl (k 0, n, .inl f))) {i x : Int32} (hin : vp_in i n) (hw : ws.set q0 (a, .inl (k 0, n, .inl (upd f i.toNatClampNeg x))) = ws') (hdg : decode cc pc = .ok (.iastore, 1))
    (kk : ∀ (H1 : Heap) (locs1 : List Loc), Wo D A s.heap ws' H1 locs1 → W p l e R s m args below meth c H1 locs1 cells slots Q (F0 m (pc + 1) ls rest)) : W p l e R s m args below meth c H locs cells slots Q (F0 m pc ls (.int x :: .int i :: .ref a :: rest)) := by
  subst hw
  exact va_iast X.1 X.2.1 X.2.2.2.2.2.2.2.1 G.1 G.2.1 G.2.2 q0 0 ha rfl hin hdg (fun H1 locs1 h1 h2 h3 => kk H1 locs1 ⟨h1, h2, h3⟩)
theorem r_bast (X : Cx p s m meth c D k Z A cc mL ret own) (G : Wo D A s.heap ws H locs) (q0 : Nat) {n : Nat} {f : Nat → Int32} (ha : ws[q0]? = some (a, .inl (k 1, n, .inl f))) {i x : Int32} (hin : vp_in i n) (hw : ws.set q0 (a, .inl (k 1, n, .inl (upd f i.toNatClampNeg (vp_nar .byte x)))) = ws') (hdg : decode cc pc = .ok (.bastore, 1))
    (kk : ∀ (H1 : Heap) (locs1 : List Loc), Wo D A s.heap ws' H1 locs1 → W p l e R s m args below meth c H1 locs1 cells slots Q (F0 m (pc + 1) ls rest)) : W p l e R s m args below meth c H locs cells slots Q (F0 m pc ls (.int x :: .int i :: .ref a :: rest)) := by
  subst hw
  exact va_bast X.1 X.2.1 X.2.2.2.2.2.2.2.1 G.1 G.2.1 G.2.2 q0 1 ha rfl hin hdg (fun H1 locs1 h1 h2 h3 => kk H1 locs1 ⟨h1, h2, h3⟩)
theorem r_zast (X : Cx p s m meth c D k Z A cc mL ret own) (G : Wo D A s.heap ws H locs) (q0 : Nat) {n : Nat} {f : Nat → Int32} (ha : ws[q0]? = some (a, .inl (k 2, n, .inl f))) {i x : Int32} (hin : vp_in i n) (hw : ws.set q0 (a, .inl (k 2, n, .inl (upd f i.toNatClampNeg (vp_nar .boolean x)))) = ws') (hdg : decode cc pc = .ok (.bastore, 1))
    (kk : ∀ (H1 : Heap) (locs1 : List Loc), Wo D A s.heap ws' H1 locs1 → W p l e R s m args below meth c H1 locs1 cells slots Q (F0 m (pc + 1) ls rest)) : W p l e R s m args below meth c H locs cells slots Q (F0 m pc ls (.int x :: .int i :: .ref a :: rest)) := by
  subst hw
  exact va_zast X.1 X.2.1 X.2.2.2.2.2.2.2.1 G.1 G.2.1 G.2.2 q0 2 ha rfl hin hdg (fun H1 locs1 h1 h2 h3 => kk H1 locs1 ⟨h1, h2, h3⟩)
theorem r_alen (X : Cx p s m meth c D k Z A cc mL ret own) (G : Wo D A s.heap ws H locs) (q0 t0 : Nat) {cA : ClassId} {x : vp_A} (ha : ws[q0]? = some (a, .inl (cA, x))) {ty : FieldType} (ht : (TY k)[t0]? = some (cA, ty)) {v : Int32} (hv : Int32.ofNat x.1 = v) (hdg : decode cc pc = .ok (.arraylength, 1))
    (kk : W p l e R s m args below meth c H locs cells slots Q (F0 m (pc + 1) ls (.int v :: rest))) : W p l e R s m args below meth c H locs cells slots Q (F0 m pc ls (.ref a :: rest)) :=
  va_alen X.1 X.2.1 X.2.2.2.2.2.2.2.1 G.1 q0 t0 ha ht hv hdg kk
/-! ends -/
variable {ov : Option Value} {w0 : va_W}
theorem e_mi {v : Int32} (X : Cx p s m meth c D k Z A cc mL (some .int) own) (G : Wo D (wA w0) s.heap ws H locs) (hdg : decode cc pc = .ok (.ireturn, 1)) : W p l e R s m args below meth c H locs cells slots (MQ below (Qm D (some (.int v)) w0 ws) args s cells slots (wA w0)) (F0 m pc ls [.int v]) :=
  W.iret X.1 X.2.1 X.2.2.1 (fun t ht _ => ⟨rfl, by rw [ht]; exact G.1, G.2.2.F ht⟩) G.2.2.2.2 hdg X.2.2.2.1
theorem e_mz {v : Int32} (b : Bool) (hv : bI b = v) (X : Cx p s m meth c D k Z A cc mL (some .boolean) own) (G : Wo D (wA w0) s.heap ws H locs) (hdg : decode cc pc = .ok (.ireturn, 1)) : W p l e R s m args below meth c H locs cells slots (MQ below (Qm D (some (.int (bI b))) w0 ws) args s cells slots (wA w0)) (F0 m pc ls [.int v]) := by
  subst hv
  exact W.zret X.1 X.2.1 X.2.2.1 (bI_narrow b) (fun t ht _ => ⟨rfl, by rw [ht]; exact G.1, G.2.2.F ht⟩) G.2.2.2.2 hdg X.2.2.2.1
theorem e_mv (X : Cx p s m meth c D k Z A cc mL none own) (G : Wo D (wA w0) s.heap ws H locs) (hdg : decode cc pc = .ok (.return_, 1)) : W p l e R s m args below meth c H locs cells slots (MQ below (Qm D none w0 ws) args s cells slots (wA w0)) (F0 m pc ls []) :=
  W.vret X.1 X.2.1 X.2.2.1 (fun t ht _ => ⟨rfl, by rw [ht]; exact G.1, G.2.2.F ht⟩) G.2.2.2.2 hdg X.2.2.2.1
theorem e_ri {v : Int32} (X : Cx p s m meth c D k Z A cc mL (some .int) own) (hdg : decode cc pc = .ok (.ireturn, 1)) : W p l e R s m args below meth c s.heap [] cells slots (MQ below (Qr (some (.int v))) args s cells slots (fun _ => False)) (F0 m pc ls [.int v]) :=
  W.iret X.1 X.2.1 X.2.2.1 (fun t ht _ => ⟨rfl, ht⟩) (fun _ h => by cases h) hdg X.2.2.2.1
theorem e_rz {v : Int32} (b : Bool) (hv : bI b = v) (X : Cx p s m meth c D k Z A cc mL (some .boolean) own) (hdg : decode cc pc = .ok (.ireturn, 1)) : W p l e R s m args below meth c s.heap [] cells slots (MQ below (Qr (some (.int (bI b)))) args s cells slots (fun _ => False)) (F0 m pc ls [.int v]) := by
  subst hv
  exact W.zret X.1 X.2.1 X.2.2.1 (bI_narrow b) (fun t ht _ => ⟨rfl, ht⟩) (fun _ h => by cases h) hdg X.2.2.2.1
theorem e_rv (X : Cx p s m meth c D k Z A cc mL none own) (hdg : decode cc pc = .ok (.return_, 1)) : W p l e R s m args below meth c s.heap [] cells slots (MQ below (Qr none) args s cells slots (fun _ => False)) (F0 m pc ls []) :=
  W.vret X.1 X.2.1 X.2.2.1 (fun t ht _ => ⟨rfl, ht⟩) (fun _ h => by cases h) hdg X.2.2.2.1
/-! calls -/
variable {y : MethodName} {bytes : ByteArray} {mLy n index fr lo : Nat} {rety : Option FieldType} {As rest' st0 st1 : List Value} {wc wc' : va_W} {b : Nat}
/-- what the tables have of a method: virtual, static -/
def MV (y : MethodName) (bytes : ByteArray) (mLy : Nat) (rety : Option FieldType) (n : Nat) : Prop := Cond.code y bytes mLy rety ∈ TB ∧ Cond.initialized y.cls ∈ TB ∧ Cond.instanceMethod y ∈ TB ∧ Cond.selects y.cls y y ∈ TB ∧ (y.cls ≠ "java/lang/invoke/MethodHandle" ∧ y.cls ≠ "java/lang/invoke/VarHandle") ∧ (parseMethodDescriptor y.desc).map (fun d => d.parameters.length) = some n
def MS (y : MethodName) (bytes : ByteArray) (mLy : Nat) (rety : Option FieldType) (n : Nat) : Prop := Cond.code y bytes mLy rety ∈ TB ∧ Cond.initialized y.cls ∈ TB ∧ Cond.static y ∈ TB ∧ True ∧ (y.cls ≠ "java/lang/invoke/MethodHandle" ∧ y.cls ≠ "java/lang/invoke/VarHandle") ∧ (parseMethodDescriptor y.desc).map (fun d => d.parameters.length) = some n
theorem len_of {y : MethodName} {n : Nat} (h : (parseMethodDescriptor y.desc).map (fun d => d.parameters.length) = some n) : ∀ sig, parseMethodDescriptor y.desc = some sig → n = sig.parameters.length := fun sig h2 => by
  rw [h2] at h
  exact (Option.some.inj h).symm
theorem code_pay (hE : En s) (h : Cond.code y bytes mLy rety ∈ TB) : ∀ w ∈ [Cond.code y bytes mLy rety], ∀ (a' : Array Value) (U : State), s.WarmedH U.vm → w.before a' U = true := fun w hw a' U hW => by
  rcases List.mem_singleton.mp hw with rfl
  exact hE.here hW h a'
theorem cb_of (hE : En s) (hM : Cond.code y bytes mLy rety ∈ TB ∧ Cond.initialized y.cls ∈ TB) (hd : (y.cls ≠ "java/lang/invoke/MethodHandle" ∧ y.cls ≠ "java/lang/invoke/VarHandle") ∧ (parseMethodDescriptor y.desc).map (fun d => d.parameters.length) = some n) (hl : Cond.methodLink own index y ∈ TB) (hR : fr + 1 ≤ R.frames ∧ 8 + (mLy + 11) + lo ≤ R.locals) : CallB R s args own index y bytes mLy rety [.code y bytes mLy rety] (rmz fr lo) 0 0 n :=
  ⟨rfl, rfl, hR.1, hR.2, code_pay hE hM.1, List.mem_singleton.mpr rfl, hE.use hM.1, hE.use hM.2, hd.1, len_of hd.2, hE.use hl⟩
theorem pw_at (X : Cx p s m meth c D k Z A cc mL ret own) (G : Wo D A s.heap ws H locs) (is : List Nat) (hC : is.map (fun i => ws[i]?) = wc.map some) (hn : va_nd is = true) {as : List Value} : ∀ U : State, U.heap = H → s.WarmedH U.vm → Pw D k Z as wc as.toArray U := fun U hU hW => by
  refine ⟨rfl, X.2.2.2.2.2.2.1.warm hW, va_K.moved hW.alike X.2.2.2.2.2.2.2.1, fun k q hk => ?_, (G.2.1.sub is hn hC).own, X.2.2.2.2.2.2.2.2.2.1 A _ U (fun q h => ?_) (X.2.2.2.2.2.2.2.2.2.2 A s U hW (fun q h1 h2 => by rw [hU]; exact G.2.2.2.1 q h1 h2) X.2.2.2.2.2.2.2.2.1)⟩
  · rw [hU]
    obtain ⟨i, -, h2⟩ := sub_at hC hk
    exact G.1 i q h2
  · obtain ⟨j, q1, h4, h5⟩ := wA_ex h
    obtain ⟨i, h6, h7⟩ := sub_at hC h4
    rw [← h5]
    exact G.2.1.2 i q1 h7
theorem p_R (hr : va_Run p l e R s m args below meth c H locs cells slots 0 0 (F0 m pc ls st0) rest (Qr ov (As.toArray)) (fun _ => False)) (hst : ov.toList ++ rest = st1)
    (kk : W p l e R s m args below meth c H locs cells slots Q (F0 m (pc + 3) ls st1)) : W p l e R s m args below meth c H locs cells slots Q (F0 m pc ls st0) := by
  intro T hT X
  obtain ⟨v, st₀, t, T', L, h0, X', hL, e1, e2, ⟨hv, hh⟩, st⟩ := hr T hT X
  cases hv
  subst hst
  obtain ⟨t2, a1, b1⟩ := kk T' (by rw [e1, hh, h0]) (Stand.forget X' (fun q h => (hL q h).elim))
  exact ⟨t2, st t2 a1, b1⟩
theorem p_M (hr : va_Run p l e R s m args below meth c H locs cells slots 0 0 (F0 m pc ls st0) rest (Qm D ov wc wc' (As.toArray)) (wA wc)) (hst : ov.toList ++ rest = st1) (G : Wo D A s.heap ws H locs) (is : List Nat) (hC : is.map (fun i => ws[i]?) = wc.map some) (hn : va_nd is = true) (ha : wc'.map Prod.fst = wc.map Prod.fst) (hw : rep ws is wc' = ws')
    (kk : ∀ (H1 : Heap) (locs1 : List Loc), Wo D A s.heap ws' H1 locs1 → W p l e R s m args below meth c H1 locs1 cells slots Q (F0 m (pc + 3) ls st1)) : W p l e R s m args below meth c H locs cells slots Q (F0 m pc ls st0) := by
  subst hw
  have hF : ∀ q, wA wc q → A q := fun q h => by
    obtain ⟨j, q1, h4, h5⟩ := wA_ex h
    obtain ⟨i, h6, h7⟩ := sub_at hC h4
    rw [← h5]
    exact G.2.1.2 i q1 h7
  intro T hT X
  obtain ⟨v, st₀, t, T', L, h0, X', hL, e1, e2, ⟨hv, hp, hz, hk⟩, st⟩ := hr T hT X
  cases hv
  subst hst
  rw [h0] at hz hk
  rw [← e1] at hz hp
  have hk : ∀ q : Nat, q < H.size → ¬ wA wc q → T'.heap[q]? = H[q]? := fun q h1 h2 => by rw [e1]; exact hk q h1 h2
  obtain ⟨g1, g2⟩ := rep_ok G.1 G.2.1 is hC hn ha hk hp
  obtain ⟨t2, a1, b1⟩ := kk T'.heap (locs ++ L) ⟨g1, g2, Nat.le_trans G.2.2.1 hz, fun q h1 h2 => by rw [hk q (Nat.lt_of_lt_of_le h1 G.2.2.1) (fun z => h2 (hF q z))]; exact G.2.2.2.1 q h1 h2, fun q hq => by
      rcases List.mem_append.mp hq with h | h
      · exact G.2.2.2.2 q h
      · exact hF _ (hL q h)⟩ T' rfl X'
  exact ⟨t2, st t2 a1, b1⟩
theorem run_V (X : Cx p s m meth c D k Z A cc mL ret own) {Qc : Array Value → State → Outcome → State → Prop} {free : Nat → Prop} (hC : Met l y [.code y bytes mLy rety] (rmz fr lo) (Pw D k Z (.ref b :: As) wc) Qc 0 0 free) (hM : MV y bytes mLy rety n) (hl : Cond.methodLink own index y ∈ TB) (hR : fr + 1 ≤ R.frames ∧ 8 + (mLy + 11) + lo ≤ R.locals) (G : Wo D A s.heap ws H locs) (is : List Nat) (hs : is.map (fun i => ws[i]?) = wc.map some) (hn : va_nd is = true)
    (q0 : Nat) {ci : Nat} {fs : List Value} {T : u_T} {N : Nat} (he : ws[q0]? = some (b, .inr (ci, fs))) (hc : vwCl[ci]? = some (y.cls, T, N)) (hAs : As.length = n) (hsz : ls.size = mL) (hst : st0 = As.reverse ++ .ref b :: rest) (hW : (rest.map fun v => v.category).sum ≤ 8) (hdg : decode cc pc = .ok (.invokevirtual index, 3)) (hf : cells ≤ R.cells ∧ slots ≤ R.slots) :
    va_Run p l e R s m args below meth c H locs cells slots 0 0 (F0 m pc ls st0) rest (Qc (Value.ref b :: As).toArray) free := by
  exact va_runV (Ts := TB) ⟨X.1, X.2.1, X.2.2.2.2.1, X.2.2.2.2.2.1, fun w hw => X.2.2.2.2.2.2.1.use hw⟩ hC ⟨cb_of X.2.2.2.2.2.2.1 ⟨hM.1, hM.2.1⟩ hM.2.2.2.2 hl hR, X.2.2.2.2.2.2.1.use hM.2.2.1, X.2.2.2.2.2.2.1.use hM.2.2.2.1⟩ ⟨Pw.blind X.2.2.2.2.2.2.2.2.2, va_recv X.2.2.2.2.2.2.2.1 G.1 hc he, pw_at X G is hs hn⟩ rfl hAs hsz hst (lv_room hW) hdg hf
theorem run_S (X : Cx p s m meth c D k Z A cc mL ret own) {Qc : Array Value → State → Outcome → State → Prop} {free : Nat → Prop} (hC : Met l y [.code y bytes mLy rety] (rmz fr lo) (Pw D k Z As wc) Qc 0 0 free) (hM : MS y bytes mLy rety n) (hl : Cond.methodLink own index y ∈ TB) (hR : fr + 1 ≤ R.frames ∧ 8 + (mLy + 11) + lo ≤ R.locals) (G : Wo D A s.heap ws H locs) (is : List Nat) (hs : is.map (fun i => ws[i]?) = wc.map some) (hn : va_nd is = true)
    (hAs : As.length = n) (hsz : ls.size = mL) (hst : st0 = As.reverse ++ rest) (hW : (rest.map fun v => v.category).sum ≤ 8) (hdg : decode cc pc = .ok (.invokestatic index, 3)) (hf : cells ≤ R.cells ∧ slots ≤ R.slots) :
    va_Run p l e R s m args below meth c H locs cells slots 0 0 (F0 m pc ls st0) rest (Qc As.toArray) free := by
  exact va_runS (Ts := TB) ⟨X.1, X.2.1, X.2.2.2.2.1, X.2.2.2.2.2.1, fun w hw => X.2.2.2.2.2.2.1.use hw⟩ hC ⟨cb_of X.2.2.2.2.2.2.1 ⟨hM.1, hM.2.1⟩ hM.2.2.2.2 hl hR, X.2.2.2.2.2.2.1.use hM.2.2.1⟩ ⟨Pw.blind X.2.2.2.2.2.2.2.2.2, pw_at X G is hs hn⟩ rfl hAs hsz hst (lv_room hW) hdg hf
theorem run_N {host : String} (X : Cx p s m meth c D k Z A cc mL ret own) {Qc : Array Value → State → Outcome → State → Prop} {free : Nat → Prop} (hC : Met l y [.code y bytes mLy rety] (rmz fr lo) (Pw D k Z As wc) Qc 0 0 free) (hM : MS y bytes mLy rety n) (hl : Cond.methodLinkNest own index y host ∈ TB) (hR : fr + 1 ≤ R.frames ∧ 8 + (mLy + 11) + lo ≤ R.locals) (G : Wo D A s.heap ws H locs) (is : List Nat) (hs : is.map (fun i => ws[i]?) = wc.map some) (hn : va_nd is = true)
    (hAs : As.length = n) (hsz : ls.size = mL) (hst : st0 = As.reverse ++ rest) (hW : (rest.map fun v => v.category).sum ≤ 8) (hdg : decode cc pc = .ok (.invokestatic index, 3)) (hf : cells ≤ R.cells ∧ slots ≤ R.slots) :
    va_Run p l e R s m args below meth c H locs cells slots 0 0 (F0 m pc ls st0) rest (Qc As.toArray) free := by
  have hE := X.2.2.2.2.2.2.1
  exact va_runSN (Ts := TB) ⟨X.1, X.2.1, X.2.2.2.2.1, X.2.2.2.2.2.1, fun w hw => hE.use hw⟩ hC ⟨⟨⟨rfl, rfl, hR.1, hR.2, code_pay hE hM.1, List.mem_singleton.mpr rfl⟩, hE.use hM.1, hE.use hM.2.1, hM.2.2.2.2.1, len_of hM.2.2.2.2.2, hE.use hl⟩, hE.use hM.2.2.1, trivial⟩ ⟨Pw.blind X.2.2.2.2.2.2.2.2.2, pw_at X G is hs hn⟩ rfl hAs hsz hst (lv_room hW) hdg hf
/-! a switch -/
theorem r_tsw (X : Cx p s m meth c D k Z A cc mL ret own) {dflt lo' hi' : Int} {offs : Array Int} {len : Nat} {x : Int32} {tgt : Nat} (hdg : decode cc pc = .ok (.tableswitch dflt lo' hi' offs, len)) (ht : (pc : Int) + (if x.toInt < lo' ∨ hi' < x.toInt then dflt else (offs[(x.toInt - lo').toNat]?).getD 0) = (tgt : Int)) (ho : ¬ (x.toInt < lo' ∨ hi' < x.toInt) → (offs[(x.toInt - lo').toNat]?).isSome)
    (kk : W p l e R s m args below meth c H locs cells slots Q (F0 m tgt ls rest)) : W p l e R s m args below meth c H locs cells slots Q (F0 m pc ls (.int x :: rest)) := by
  by_cases hq : x.toInt < lo' ∨ hi' < x.toInt
  · rw [if_pos hq] at ht
    exact lv_tableOut X.1 X.2.1 hdg hq ht kk
  · rw [if_neg hq] at ht
    obtain ⟨off, h1⟩ := Option.isSome_iff_exists.mp (ho hq)
    rw [h1] at ht
    exact lv_tableIn X.1 X.2.1 hdg (fun h => hq (Or.inl h)) (fun h => hq (Or.inr h)) h1 ht kk
end BW
theorem it_bd {σ ε : Type} {f : σ → Option (σ ⊕ ε)} {n : Nat} {s : σ} {e : ε} (h : it f (n + 1) s = some e) : ∃ o, f s = some o ∧ Sum.elim (it f n) some o = some e := by
  obtain ⟨o, h1, h2⟩ := bd_some h
  cases o with
  | inl s' => exact ⟨_, h1, h2⟩
  | inr e' => exact ⟨_, h1, h2⟩
theorem it_out {σ ε : Type} {g : σ → Option ε} {e x : ε} (h : Sum.elim g some (Sum.inr e) = some x) : x = e := (Option.some.inj h).symm
theorem sl_l {α β γ : Type} {f : α → γ} {g : β → γ} {u : α} {r : γ} (h : Sum.elim f g (Sum.inl u) = r) : f u = r := h
theorem sl_r {α β γ : Type} {f : α → γ} {g : β → γ} {u : β} {r : γ} (h : Sum.elim f g (Sum.inr u) = r) : g u = r := h
theorem tsw_d {x : Int32} {lo' hi' dflt : Int} {offs : Array Int} (ks : List Int32) (hne : ∀ k ∈ ks, ¬ x = k) (n : Nat) (hn : (n : Int) = hi' - lo') (hchk : ∀ j : Nat, j ≤ n → offs[j]? = some dflt ∨ Int32.ofInt (lo' + j) ∈ ks) :
    (if x.toInt < lo' ∨ hi' < x.toInt then dflt else (offs[(x.toInt - lo').toNat]?).getD 0) = dflt ∧ (¬ (x.toInt < lo' ∨ hi' < x.toInt) → (offs[(x.toInt - lo').toNat]?).isSome) := by
  by_cases hq : x.toInt < lo' ∨ hi' < x.toInt
  · exact ⟨if_pos hq, fun h => absurd hq h⟩
  · have h1 : (x.toInt - lo').toNat ≤ n := by omega
    have h2 : lo' + ((x.toInt - lo').toNat : Int) = x.toInt := by omega
    rcases hchk _ h1 with h | h
    · rw [if_neg hq, h]
      exact ⟨rfl, fun _ => rfl⟩
    · rw [h2, Int32.ofInt_toInt] at h
      exact absurd rfl (hne _ h)
end
