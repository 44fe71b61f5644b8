-- ===== PART A: goes FIRST, ahead of the names: the tables' words, and 'selects' of the private methods out of them =====
/-- a private method of a class that the tables say can be made, by its rows of tables_1 -/
def lw_okq (q : MethodName × Nat) : Prop := (q.1.cls ≠ "java/lang/invoke/MethodHandle" ∧ q.1.cls ≠ "java/lang/invoke/VarHandle") ∧ Cond.instantiable q.1.cls q.2 ∈ tables_1 ∧ Cond.privateMethod q.1 ∈ tables_1 ∧ Cond.instanceMethod q.1 ∈ tables_1
theorem lw_p0 : lw_okq (⟨"RopePost$Reader", "isMore", "()Z"⟩, 7) := ⟨⟨by decide +kernel, by decide +kernel⟩, List.mem_of_getElem? (i := 27) (by decide +kernel), List.mem_of_getElem? (i := 386) (by decide +kernel), List.mem_of_getElem? (i := 387) (by decide +kernel)⟩
theorem lw_p1 : lw_okq (⟨"RopePost$Reader", "skipBlanks", "()V"⟩, 7) := ⟨⟨by decide +kernel, by decide +kernel⟩, List.mem_of_getElem? (i := 27) (by decide +kernel), List.mem_of_getElem? (i := 390) (by decide +kernel), List.mem_of_getElem? (i := 391) (by decide +kernel)⟩
theorem lw_p2 : lw_okq (⟨"RopePost$Reader", "readClause", "(LRopePost$Plan;)Z"⟩, 7) := ⟨⟨by decide +kernel, by decide +kernel⟩, List.mem_of_getElem? (i := 27) (by decide +kernel), List.mem_of_getElem? (i := 394) (by decide +kernel), List.mem_of_getElem? (i := 395) (by decide +kernel)⟩
theorem lw_p3 : lw_okq (⟨"RopePost$Reader", "readLetters", "()V"⟩, 7) := ⟨⟨by decide +kernel, by decide +kernel⟩, List.mem_of_getElem? (i := 27) (by decide +kernel), List.mem_of_getElem? (i := 398) (by decide +kernel), List.mem_of_getElem? (i := 399) (by decide +kernel)⟩
theorem lw_p4 : lw_okq (⟨"RopePost$Reader", "isWord", "(Ljava/lang/String;)Z"⟩, 7) := ⟨⟨by decide +kernel, by decide +kernel⟩, List.mem_of_getElem? (i := 27) (by decide +kernel), List.mem_of_getElem? (i := 403) (by decide +kernel), List.mem_of_getElem? (i := 404) (by decide +kernel)⟩
theorem lw_p5 : lw_okq (⟨"RopePost$Reader", "hasRoom", "(II)Z"⟩, 7) := ⟨⟨by decide +kernel, by decide +kernel⟩, List.mem_of_getElem? (i := 27) (by decide +kernel), List.mem_of_getElem? (i := 455) (by decide +kernel), List.mem_of_getElem? (i := 456) (by decide +kernel)⟩
theorem lw_p6 : lw_okq (⟨"RopePost$Reader", "fail", "(II)Z"⟩, 7) := ⟨⟨by decide +kernel, by decide +kernel⟩, List.mem_of_getElem? (i := 27) (by decide +kernel), List.mem_of_getElem? (i := 459) (by decide +kernel), List.mem_of_getElem? (i := 460) (by decide +kernel)⟩
theorem lw_p7 : lw_okq (⟨"RopePost$Reader", "readPole", "(LRopePost$Plan;)Z"⟩, 7) := ⟨⟨by decide +kernel, by decide +kernel⟩, List.mem_of_getElem? (i := 27) (by decide +kernel), List.mem_of_getElem? (i := 463) (by decide +kernel), List.mem_of_getElem? (i := 464) (by decide +kernel)⟩
theorem lw_p8 : lw_okq (⟨"RopePost$Reader", "readNumber", "(II)Z"⟩, 7) := ⟨⟨by decide +kernel, by decide +kernel⟩, List.mem_of_getElem? (i := 27) (by decide +kernel), List.mem_of_getElem? (i := 467) (by decide +kernel), List.mem_of_getElem? (i := 468) (by decide +kernel)⟩
theorem lw_p9 : lw_okq (⟨"RopePost$Reader", "readEnd", "()Z"⟩, 7) := ⟨⟨by decide +kernel, by decide +kernel⟩, List.mem_of_getElem? (i := 27) (by decide +kernel), List.mem_of_getElem? (i := 471) (by decide +kernel), List.mem_of_getElem? (i := 472) (by decide +kernel)⟩
theorem lw_p10 : lw_okq (⟨"RopePost$Reader", "readRope", "(LRopePost$Plan;)Z"⟩, 7) := ⟨⟨by decide +kernel, by decide +kernel⟩, List.mem_of_getElem? (i := 27) (by decide +kernel), List.mem_of_getElem? (i := 476) (by decide +kernel), List.mem_of_getElem? (i := 477) (by decide +kernel)⟩
theorem lw_p11 : lw_okq (⟨"RopePost$Reader", "readOtherPole", "(LRopePost$Plan;I)Z"⟩, 7) := ⟨⟨by decide +kernel, by decide +kernel⟩, List.mem_of_getElem? (i := 27) (by decide +kernel), List.mem_of_getElem? (i := 480) (by decide +kernel), List.mem_of_getElem? (i := 481) (by decide +kernel)⟩
theorem lw_p12 : lw_okq (⟨"RopePost$Reader", "readBoy", "(LRopePost$Plan;)Z"⟩, 7) := ⟨⟨by decide +kernel, by decide +kernel⟩, List.mem_of_getElem? (i := 27) (by decide +kernel), List.mem_of_getElem? (i := 485) (by decide +kernel), List.mem_of_getElem? (i := 486) (by decide +kernel)⟩
theorem lw_p13 : lw_okq (⟨"RopePost$Reader", "readLoad", "(LRopePost$Plan;)Z"⟩, 7) := ⟨⟨by decide +kernel, by decide +kernel⟩, List.mem_of_getElem? (i := 27) (by decide +kernel), List.mem_of_getElem? (i := 494) (by decide +kernel), List.mem_of_getElem? (i := 495) (by decide +kernel)⟩
theorem lw_p14 : lw_okq (⟨"RopePost$Reader", "readKind", "()Z"⟩, 7) := ⟨⟨by decide +kernel, by decide +kernel⟩, List.mem_of_getElem? (i := 27) (by decide +kernel), List.mem_of_getElem? (i := 498) (by decide +kernel), List.mem_of_getElem? (i := 499) (by decide +kernel)⟩
theorem lw_p15 : lw_okq (⟨"RopePost$Reader", "kindOfWord", "()I"⟩, 7) := ⟨⟨by decide +kernel, by decide +kernel⟩, List.mem_of_getElem? (i := 27) (by decide +kernel), List.mem_of_getElem? (i := 502) (by decide +kernel), List.mem_of_getElem? (i := 503) (by decide +kernel)⟩
def lw_privs_1 : List (MethodName × Nat) := [(⟨"RopePost$Reader", "isMore", "()Z"⟩, 7), (⟨"RopePost$Reader", "skipBlanks", "()V"⟩, 7), (⟨"RopePost$Reader", "readClause", "(LRopePost$Plan;)Z"⟩, 7), (⟨"RopePost$Reader", "readLetters", "()V"⟩, 7), (⟨"RopePost$Reader", "isWord", "(Ljava/lang/String;)Z"⟩, 7), (⟨"RopePost$Reader", "hasRoom", "(II)Z"⟩, 7), (⟨"RopePost$Reader", "fail", "(II)Z"⟩, 7), (⟨"RopePost$Reader", "readPole", "(LRopePost$Plan;)Z"⟩, 7), (⟨"RopePost$Reader", "readNumber", "(II)Z"⟩, 7), (⟨"RopePost$Reader", "readEnd", "()Z"⟩, 7), (⟨"RopePost$Reader", "readRope", "(LRopePost$Plan;)Z"⟩, 7), (⟨"RopePost$Reader", "readOtherPole", "(LRopePost$Plan;I)Z"⟩, 7), (⟨"RopePost$Reader", "readBoy", "(LRopePost$Plan;)Z"⟩, 7), (⟨"RopePost$Reader", "readLoad", "(LRopePost$Plan;)Z"⟩, 7), (⟨"RopePost$Reader", "readKind", "()Z"⟩, 7), (⟨"RopePost$Reader", "kindOfWord", "()I"⟩, 7)]
theorem lw_r1 : ∀ q ∈ lw_privs_1, lw_okq q := List.forall_mem_cons.mpr ⟨lw_p0, List.forall_mem_cons.mpr ⟨lw_p1, List.forall_mem_cons.mpr ⟨lw_p2, List.forall_mem_cons.mpr ⟨lw_p3, List.forall_mem_cons.mpr ⟨lw_p4, List.forall_mem_cons.mpr ⟨lw_p5, List.forall_mem_cons.mpr ⟨lw_p6, List.forall_mem_cons.mpr ⟨lw_p7, List.forall_mem_cons.mpr ⟨lw_p8, List.forall_mem_cons.mpr ⟨lw_p9, List.forall_mem_cons.mpr ⟨lw_p10, List.forall_mem_cons.mpr ⟨lw_p11, List.forall_mem_cons.mpr ⟨lw_p12, List.forall_mem_cons.mpr ⟨lw_p13, List.forall_mem_cons.mpr ⟨lw_p14, List.forall_mem_cons.mpr ⟨lw_p15, fun _ h => absurd h List.not_mem_nil⟩⟩⟩⟩⟩⟩⟩⟩⟩⟩⟩⟩⟩⟩⟩⟩
theorem lw_p16 : lw_okq (⟨"RopePost", "isPole", "(I)Z"⟩, 10) := ⟨⟨by decide +kernel, by decide +kernel⟩, List.mem_of_getElem? (i := 19) (by decide +kernel), List.mem_of_getElem? (i := 522) (by decide +kernel), List.mem_of_getElem? (i := 523) (by decide +kernel)⟩
theorem lw_p17 : lw_okq (⟨"RopePost", "isRope", "(I)Z"⟩, 10) := ⟨⟨by decide +kernel, by decide +kernel⟩, List.mem_of_getElem? (i := 19) (by decide +kernel), List.mem_of_getElem? (i := 539) (by decide +kernel), List.mem_of_getElem? (i := 540) (by decide +kernel)⟩
theorem lw_p18 : lw_okq (⟨"RopePost", "isBoy", "(I)Z"⟩, 10) := ⟨⟨by decide +kernel, by decide +kernel⟩, List.mem_of_getElem? (i := 19) (by decide +kernel), List.mem_of_getElem? (i := 554) (by decide +kernel), List.mem_of_getElem? (i := 555) (by decide +kernel)⟩
theorem lw_p19 : lw_okq (⟨"RopePost", "isLoad", "(I)Z"⟩, 10) := ⟨⟨by decide +kernel, by decide +kernel⟩, List.mem_of_getElem? (i := 19) (by decide +kernel), List.mem_of_getElem? (i := 570) (by decide +kernel), List.mem_of_getElem? (i := 571) (by decide +kernel)⟩
theorem lw_p20 : lw_okq (⟨"RopePost", "minutesOn", "(IIIZ)I"⟩, 10) := ⟨⟨by decide +kernel, by decide +kernel⟩, List.mem_of_getElem? (i := 19) (by decide +kernel), List.mem_of_getElem? (i := 583) (by decide +kernel), List.mem_of_getElem? (i := 584) (by decide +kernel)⟩
theorem lw_p21 : lw_okq (⟨"RopePost", "mayBeGone", "(III)Z"⟩, 10) := ⟨⟨by decide +kernel, by decide +kernel⟩, List.mem_of_getElem? (i := 19) (by decide +kernel), List.mem_of_getElem? (i := 587) (by decide +kernel), List.mem_of_getElem? (i := 588) (by decide +kernel)⟩
theorem lw_p22 : lw_okq (⟨"RopePost", "passMinute", "()V"⟩, 10) := ⟨⟨by decide +kernel, by decide +kernel⟩, List.mem_of_getElem? (i := 19) (by decide +kernel), List.mem_of_getElem? (i := 628) (by decide +kernel), List.mem_of_getElem? (i := 629) (by decide +kernel)⟩
theorem lw_p23 : lw_okq (⟨"RopePost", "moveOn", "(I)V"⟩, 10) := ⟨⟨by decide +kernel, by decide +kernel⟩, List.mem_of_getElem? (i := 19) (by decide +kernel), List.mem_of_getElem? (i := 632) (by decide +kernel), List.mem_of_getElem? (i := 633) (by decide +kernel)⟩
theorem lw_p24 : lw_okq (⟨"RopePost", "arrive", "(I)V"⟩, 10) := ⟨⟨by decide +kernel, by decide +kernel⟩, List.mem_of_getElem? (i := 19) (by decide +kernel), List.mem_of_getElem? (i := 636) (by decide +kernel), List.mem_of_getElem? (i := 637) (by decide +kernel)⟩
theorem lw_p25 : lw_okq (⟨"RopePost", "deliver", "(I)V"⟩, 10) := ⟨⟨by decide +kernel, by decide +kernel⟩, List.mem_of_getElem? (i := 19) (by decide +kernel), List.mem_of_getElem? (i := 640) (by decide +kernel), List.mem_of_getElem? (i := 641) (by decide +kernel)⟩
theorem lw_p26 : lw_okq (⟨"RopePost", "minutesBetween", "(IIIZ)I"⟩, 10) := ⟨⟨by decide +kernel, by decide +kernel⟩, List.mem_of_getElem? (i := 19) (by decide +kernel), List.mem_of_getElem? (i := 684) (by decide +kernel), List.mem_of_getElem? (i := 685) (by decide +kernel)⟩
theorem lw_p27 : lw_okq (⟨"RopePost", "spreadMinutes", "(IIZ)V"⟩, 10) := ⟨⟨by decide +kernel, by decide +kernel⟩, List.mem_of_getElem? (i := 19) (by decide +kernel), List.mem_of_getElem? (i := 688) (by decide +kernel), List.mem_of_getElem? (i := 689) (by decide +kernel)⟩
theorem lw_p28 : lw_okq (⟨"RopePost$Ways", "shorten", "(III)V"⟩, 3) := ⟨⟨by decide +kernel, by decide +kernel⟩, List.mem_of_getElem? (i := 265) (by decide +kernel), List.mem_of_getElem? (i := 698) (by decide +kernel), List.mem_of_getElem? (i := 699) (by decide +kernel)⟩
theorem lw_p29 : lw_okq (⟨"RopePost$Ways", "spreadBy", "(I)V"⟩, 3) := ⟨⟨by decide +kernel, by decide +kernel⟩, List.mem_of_getElem? (i := 265) (by decide +kernel), List.mem_of_getElem? (i := 702) (by decide +kernel), List.mem_of_getElem? (i := 703) (by decide +kernel)⟩
theorem lw_p30 : lw_okq (⟨"RopePost", "learnRounds", "(II)V"⟩, 10) := ⟨⟨by decide +kernel, by decide +kernel⟩, List.mem_of_getElem? (i := 19) (by decide +kernel), List.mem_of_getElem? (i := 721) (by decide +kernel), List.mem_of_getElem? (i := 722) (by decide +kernel)⟩
theorem lw_p31 : lw_okq (⟨"RopePost$Rounds", "leastFrom", "(III)I"⟩, 4) := ⟨⟨by decide +kernel, by decide +kernel⟩, List.mem_of_getElem? (i := 283) (by decide +kernel), List.mem_of_getElem? (i := 739) (by decide +kernel), List.mem_of_getElem? (i := 740) (by decide +kernel)⟩
def lw_privs_2 : List (MethodName × Nat) := [(⟨"RopePost", "isPole", "(I)Z"⟩, 10), (⟨"RopePost", "isRope", "(I)Z"⟩, 10), (⟨"RopePost", "isBoy", "(I)Z"⟩, 10), (⟨"RopePost", "isLoad", "(I)Z"⟩, 10), (⟨"RopePost", "minutesOn", "(IIIZ)I"⟩, 10), (⟨"RopePost", "mayBeGone", "(III)Z"⟩, 10), (⟨"RopePost", "passMinute", "()V"⟩, 10), (⟨"RopePost", "moveOn", "(I)V"⟩, 10), (⟨"RopePost", "arrive", "(I)V"⟩, 10), (⟨"RopePost", "deliver", "(I)V"⟩, 10), (⟨"RopePost", "minutesBetween", "(IIIZ)I"⟩, 10), (⟨"RopePost", "spreadMinutes", "(IIZ)V"⟩, 10), (⟨"RopePost$Ways", "shorten", "(III)V"⟩, 3), (⟨"RopePost$Ways", "spreadBy", "(I)V"⟩, 3), (⟨"RopePost", "learnRounds", "(II)V"⟩, 10), (⟨"RopePost$Rounds", "leastFrom", "(III)I"⟩, 4)]
theorem lw_r2 : ∀ q ∈ lw_privs_2, lw_okq q := List.forall_mem_cons.mpr ⟨lw_p16, List.forall_mem_cons.mpr ⟨lw_p17, List.forall_mem_cons.mpr ⟨lw_p18, List.forall_mem_cons.mpr ⟨lw_p19, List.forall_mem_cons.mpr ⟨lw_p20, List.forall_mem_cons.mpr ⟨lw_p21, List.forall_mem_cons.mpr ⟨lw_p22, List.forall_mem_cons.mpr ⟨lw_p23, List.forall_mem_cons.mpr ⟨lw_p24, List.forall_mem_cons.mpr ⟨lw_p25, List.forall_mem_cons.mpr ⟨lw_p26, List.forall_mem_cons.mpr ⟨lw_p27, List.forall_mem_cons.mpr ⟨lw_p28, List.forall_mem_cons.mpr ⟨lw_p29, List.forall_mem_cons.mpr ⟨lw_p30, List.forall_mem_cons.mpr ⟨lw_p31, fun _ h => absurd h List.not_mem_nil⟩⟩⟩⟩⟩⟩⟩⟩⟩⟩⟩⟩⟩⟩⟩⟩
theorem lw_p32 : lw_okq (⟨"RopePost$Rounds", "way", "(III)I"⟩, 4) := ⟨⟨by decide +kernel, by decide +kernel⟩, List.mem_of_getElem? (i := 283) (by decide +kernel), List.mem_of_getElem? (i := 745) (by decide +kernel), List.mem_of_getElem? (i := 746) (by decide +kernel)⟩
theorem lw_p33 : lw_okq (⟨"RopePost", "roundOf", "(II)I"⟩, 10) := ⟨⟨by decide +kernel, by decide +kernel⟩, List.mem_of_getElem? (i := 19) (by decide +kernel), List.mem_of_getElem? (i := 756) (by decide +kernel), List.mem_of_getElem? (i := 757) (by decide +kernel)⟩
theorem lw_p34 : lw_okq (⟨"RopePost$Dealer", "longestOf", "(III)I"⟩, 3) := ⟨⟨by decide +kernel, by decide +kernel⟩, List.mem_of_getElem? (i := 304) (by decide +kernel), List.mem_of_getElem? (i := 780) (by decide +kernel), List.mem_of_getElem? (i := 781) (by decide +kernel)⟩
theorem lw_p35 : lw_okq (⟨"RopePost", "outlivesCuts", "(II)Z"⟩, 10) := ⟨⟨by decide +kernel, by decide +kernel⟩, List.mem_of_getElem? (i := 19) (by decide +kernel), List.mem_of_getElem? (i := 793) (by decide +kernel), List.mem_of_getElem? (i := 794) (by decide +kernel)⟩
theorem lw_p36 : lw_okq (⟨"RopePost", "joins", "(II)Z"⟩, 10) := ⟨⟨by decide +kernel, by decide +kernel⟩, List.mem_of_getElem? (i := 19) (by decide +kernel), List.mem_of_getElem? (i := 797) (by decide +kernel), List.mem_of_getElem? (i := 798) (by decide +kernel)⟩
theorem lw_p37 : lw_okq (⟨"RopePost", "leastNewRope", "()I"⟩, 10) := ⟨⟨by decide +kernel, by decide +kernel⟩, List.mem_of_getElem? (i := 19) (by decide +kernel), List.mem_of_getElem? (i := 812) (by decide +kernel), List.mem_of_getElem? (i := 813) (by decide +kernel)⟩
theorem lw_p38 : lw_okq (⟨"RopePost", "isJoinedAtOnce", "(II)Z"⟩, 10) := ⟨⟨by decide +kernel, by decide +kernel⟩, List.mem_of_getElem? (i := 19) (by decide +kernel), List.mem_of_getElem? (i := 823) (by decide +kernel), List.mem_of_getElem? (i := 824) (by decide +kernel)⟩
theorem lw_p39 : lw_okq (⟨"RopePost", "throwOdds", "(III)I"⟩, 10) := ⟨⟨by decide +kernel, by decide +kernel⟩, List.mem_of_getElem? (i := 19) (by decide +kernel), List.mem_of_getElem? (i := 837) (by decide +kernel), List.mem_of_getElem? (i := 838) (by decide +kernel)⟩
theorem lw_p40 : lw_okq (⟨"RopePost", "canHaveBeen", "(III)Z"⟩, 10) := ⟨⟨by decide +kernel, by decide +kernel⟩, List.mem_of_getElem? (i := 19) (by decide +kernel), List.mem_of_getElem? (i := 861) (by decide +kernel), List.mem_of_getElem? (i := 862) (by decide +kernel)⟩
theorem lw_p41 : lw_okq (⟨"RopePost", "isWrong", "(I)Z"⟩, 10) := ⟨⟨by decide +kernel, by decide +kernel⟩, List.mem_of_getElem? (i := 19) (by decide +kernel), List.mem_of_getElem? (i := 877) (by decide +kernel), List.mem_of_getElem? (i := 878) (by decide +kernel)⟩
theorem lw_p42 : lw_okq (⟨"RopePostModel", "here", "()I"⟩, 74) := ⟨⟨by decide +kernel, by decide +kernel⟩, List.mem_of_getElem? (i := 901) (by decide +kernel), List.mem_of_getElem? (i := 1146) (by decide +kernel), List.mem_of_getElem? (i := 1147) (by decide +kernel)⟩
theorem lw_p43 : lw_okq (⟨"RopePostModel", "takeClause", "()I"⟩, 74) := ⟨⟨by decide +kernel, by decide +kernel⟩, List.mem_of_getElem? (i := 901) (by decide +kernel), List.mem_of_getElem? (i := 1150) (by decide +kernel), List.mem_of_getElem? (i := 1151) (by decide +kernel)⟩
theorem lw_p44 : lw_okq (⟨"RopePostModel", "readWord", "()V"⟩, 74) := ⟨⟨by decide +kernel, by decide +kernel⟩, List.mem_of_getElem? (i := 901) (by decide +kernel), List.mem_of_getElem? (i := 1154) (by decide +kernel), List.mem_of_getElem? (i := 1155) (by decide +kernel)⟩
theorem lw_p45 : lw_okq (⟨"RopePostModel", "fails", "(II)I"⟩, 74) := ⟨⟨by decide +kernel, by decide +kernel⟩, List.mem_of_getElem? (i := 901) (by decide +kernel), List.mem_of_getElem? (i := 1170) (by decide +kernel), List.mem_of_getElem? (i := 1171) (by decide +kernel)⟩
theorem lw_p46 : lw_okq (⟨"RopePostModel", "takePole", "()I"⟩, 74) := ⟨⟨by decide +kernel, by decide +kernel⟩, List.mem_of_getElem? (i := 901) (by decide +kernel), List.mem_of_getElem? (i := 1174) (by decide +kernel), List.mem_of_getElem? (i := 1175) (by decide +kernel)⟩
theorem lw_p47 : lw_okq (⟨"RopePostModel", "into", "([IIII)I"⟩, 74) := ⟨⟨by decide +kernel, by decide +kernel⟩, List.mem_of_getElem? (i := 901) (by decide +kernel), List.mem_of_getElem? (i := 1178) (by decide +kernel), List.mem_of_getElem? (i := 1179) (by decide +kernel)⟩
def lw_privs_3 : List (MethodName × Nat) := [(⟨"RopePost$Rounds", "way", "(III)I"⟩, 4), (⟨"RopePost", "roundOf", "(II)I"⟩, 10), (⟨"RopePost$Dealer", "longestOf", "(III)I"⟩, 3), (⟨"RopePost", "outlivesCuts", "(II)Z"⟩, 10), (⟨"RopePost", "joins", "(II)Z"⟩, 10), (⟨"RopePost", "leastNewRope", "()I"⟩, 10), (⟨"RopePost", "isJoinedAtOnce", "(II)Z"⟩, 10), (⟨"RopePost", "throwOdds", "(III)I"⟩, 10), (⟨"RopePost", "canHaveBeen", "(III)Z"⟩, 10), (⟨"RopePost", "isWrong", "(I)Z"⟩, 10), (⟨"RopePostModel", "here", "()I"⟩, 74), (⟨"RopePostModel", "takeClause", "()I"⟩, 74), (⟨"RopePostModel", "readWord", "()V"⟩, 74), (⟨"RopePostModel", "fails", "(II)I"⟩, 74), (⟨"RopePostModel", "takePole", "()I"⟩, 74), (⟨"RopePostModel", "into", "([IIII)I"⟩, 74)]
theorem lw_r3 : ∀ q ∈ lw_privs_3, lw_okq q := List.forall_mem_cons.mpr ⟨lw_p32, List.forall_mem_cons.mpr ⟨lw_p33, List.forall_mem_cons.mpr ⟨lw_p34, List.forall_mem_cons.mpr ⟨lw_p35, List.forall_mem_cons.mpr ⟨lw_p36, List.forall_mem_cons.mpr ⟨lw_p37, List.forall_mem_cons.mpr ⟨lw_p38, List.forall_mem_cons.mpr ⟨lw_p39, List.forall_mem_cons.mpr ⟨lw_p40, List.forall_mem_cons.mpr ⟨lw_p41, List.forall_mem_cons.mpr ⟨lw_p42, List.forall_mem_cons.mpr ⟨lw_p43, List.forall_mem_cons.mpr ⟨lw_p44, List.forall_mem_cons.mpr ⟨lw_p45, List.forall_mem_cons.mpr ⟨lw_p46, List.forall_mem_cons.mpr ⟨lw_p47, fun _ h => absurd h List.not_mem_nil⟩⟩⟩⟩⟩⟩⟩⟩⟩⟩⟩⟩⟩⟩⟩⟩
theorem lw_p48 : lw_okq (⟨"RopePostModel", "takeNumber", "(II)I"⟩, 74) := ⟨⟨by decide +kernel, by decide +kernel⟩, List.mem_of_getElem? (i := 901) (by decide +kernel), List.mem_of_getElem? (i := 1182) (by decide +kernel), List.mem_of_getElem? (i := 1183) (by decide +kernel)⟩
theorem lw_p49 : lw_okq (⟨"RopePostModel", "takeRope", "()I"⟩, 74) := ⟨⟨by decide +kernel, by decide +kernel⟩, List.mem_of_getElem? (i := 901) (by decide +kernel), List.mem_of_getElem? (i := 1188) (by decide +kernel), List.mem_of_getElem? (i := 1189) (by decide +kernel)⟩
theorem lw_p50 : lw_okq (⟨"RopePostModel", "takeTwo", "([I[II)I"⟩, 74) := ⟨⟨by decide +kernel, by decide +kernel⟩, List.mem_of_getElem? (i := 901) (by decide +kernel), List.mem_of_getElem? (i := 1192) (by decide +kernel), List.mem_of_getElem? (i := 1193) (by decide +kernel)⟩
theorem lw_p51 : lw_okq (⟨"RopePostModel", "takeBoy", "()I"⟩, 74) := ⟨⟨by decide +kernel, by decide +kernel⟩, List.mem_of_getElem? (i := 901) (by decide +kernel), List.mem_of_getElem? (i := 1196) (by decide +kernel), List.mem_of_getElem? (i := 1197) (by decide +kernel)⟩
theorem lw_p52 : lw_okq (⟨"RopePostModel", "takeLoad", "()I"⟩, 74) := ⟨⟨by decide +kernel, by decide +kernel⟩, List.mem_of_getElem? (i := 901) (by decide +kernel), List.mem_of_getElem? (i := 1200) (by decide +kernel), List.mem_of_getElem? (i := 1201) (by decide +kernel)⟩
theorem lw_p53 : lw_okq (⟨"RopePostModel", "begin", "()V"⟩, 74) := ⟨⟨by decide +kernel, by decide +kernel⟩, List.mem_of_getElem? (i := 901) (by decide +kernel), List.mem_of_getElem? (i := 1204) (by decide +kernel), List.mem_of_getElem? (i := 1205) (by decide +kernel)⟩
theorem lw_p54 : lw_okq (⟨"RopePostModel", "doneSet", "()I"⟩, 74) := ⟨⟨by decide +kernel, by decide +kernel⟩, List.mem_of_getElem? (i := 901) (by decide +kernel), List.mem_of_getElem? (i := 1216) (by decide +kernel), List.mem_of_getElem? (i := 1217) (by decide +kernel)⟩
theorem lw_p55 : lw_okq (⟨"RopePostModel", "wholeSet", "()I"⟩, 74) := ⟨⟨by decide +kernel, by decide +kernel⟩, List.mem_of_getElem? (i := 901) (by decide +kernel), List.mem_of_getElem? (i := 1220) (by decide +kernel), List.mem_of_getElem? (i := 1221) (by decide +kernel)⟩
theorem lw_p56 : lw_okq (⟨"RopePostModel", "isPole", "(I)Z"⟩, 74) := ⟨⟨by decide +kernel, by decide +kernel⟩, List.mem_of_getElem? (i := 901) (by decide +kernel), List.mem_of_getElem? (i := 1228) (by decide +kernel), List.mem_of_getElem? (i := 1229) (by decide +kernel)⟩
theorem lw_p57 : lw_okq (⟨"RopePostModel", "boysAt", "(I)I"⟩, 74) := ⟨⟨by decide +kernel, by decide +kernel⟩, List.mem_of_getElem? (i := 901) (by decide +kernel), List.mem_of_getElem? (i := 1233) (by decide +kernel), List.mem_of_getElem? (i := 1234) (by decide +kernel)⟩
theorem lw_p58 : lw_okq (⟨"RopePostModel", "loadsAt", "(I)I"⟩, 74) := ⟨⟨by decide +kernel, by decide +kernel⟩, List.mem_of_getElem? (i := 901) (by decide +kernel), List.mem_of_getElem? (i := 1237) (by decide +kernel), List.mem_of_getElem? (i := 1238) (by decide +kernel)⟩
theorem lw_p59 : lw_okq (⟨"RopePostModel", "isRope", "(I)Z"⟩, 74) := ⟨⟨by decide +kernel, by decide +kernel⟩, List.mem_of_getElem? (i := 901) (by decide +kernel), List.mem_of_getElem? (i := 1245) (by decide +kernel), List.mem_of_getElem? (i := 1246) (by decide +kernel)⟩
theorem lw_p60 : lw_okq (⟨"RopePostModel", "onRope", "(I)I"⟩, 74) := ⟨⟨by decide +kernel, by decide +kernel⟩, List.mem_of_getElem? (i := 901) (by decide +kernel), List.mem_of_getElem? (i := 1249) (by decide +kernel), List.mem_of_getElem? (i := 1250) (by decide +kernel)⟩
theorem lw_p61 : lw_okq (⟨"RopePostModel", "isBoy", "(I)Z"⟩, 74) := ⟨⟨by decide +kernel, by decide +kernel⟩, List.mem_of_getElem? (i := 901) (by decide +kernel), List.mem_of_getElem? (i := 1257) (by decide +kernel), List.mem_of_getElem? (i := 1258) (by decide +kernel)⟩
theorem lw_p62 : lw_okq (⟨"RopePostModel", "carriedBy", "(I)I"⟩, 74) := ⟨⟨by decide +kernel, by decide +kernel⟩, List.mem_of_getElem? (i := 901) (by decide +kernel), List.mem_of_getElem? (i := 1261) (by decide +kernel), List.mem_of_getElem? (i := 1262) (by decide +kernel)⟩
theorem lw_p63 : lw_okq (⟨"RopePostModel", "isLoad", "(I)Z"⟩, 74) := ⟨⟨by decide +kernel, by decide +kernel⟩, List.mem_of_getElem? (i := 901) (by decide +kernel), List.mem_of_getElem? (i := 1269) (by decide +kernel), List.mem_of_getElem? (i := 1270) (by decide +kernel)⟩
def lw_privs_4 : List (MethodName × Nat) := [(⟨"RopePostModel", "takeNumber", "(II)I"⟩, 74), (⟨"RopePostModel", "takeRope", "()I"⟩, 74), (⟨"RopePostModel", "takeTwo", "([I[II)I"⟩, 74), (⟨"RopePostModel", "takeBoy", "()I"⟩, 74), (⟨"RopePostModel", "takeLoad", "()I"⟩, 74), (⟨"RopePostModel", "begin", "()V"⟩, 74), (⟨"RopePostModel", "doneSet", "()I"⟩, 74), (⟨"RopePostModel", "wholeSet", "()I"⟩, 74), (⟨"RopePostModel", "isPole", "(I)Z"⟩, 74), (⟨"RopePostModel", "boysAt", "(I)I"⟩, 74), (⟨"RopePostModel", "loadsAt", "(I)I"⟩, 74), (⟨"RopePostModel", "isRope", "(I)Z"⟩, 74), (⟨"RopePostModel", "onRope", "(I)I"⟩, 74), (⟨"RopePostModel", "isBoy", "(I)Z"⟩, 74), (⟨"RopePostModel", "carriedBy", "(I)I"⟩, 74), (⟨"RopePostModel", "isLoad", "(I)Z"⟩, 74)]
theorem lw_r4 : ∀ q ∈ lw_privs_4, lw_okq q := List.forall_mem_cons.mpr ⟨lw_p48, List.forall_mem_cons.mpr ⟨lw_p49, List.forall_mem_cons.mpr ⟨lw_p50, List.forall_mem_cons.mpr ⟨lw_p51, List.forall_mem_cons.mpr ⟨lw_p52, List.forall_mem_cons.mpr ⟨lw_p53, List.forall_mem_cons.mpr ⟨lw_p54, List.forall_mem_cons.mpr ⟨lw_p55, List.forall_mem_cons.mpr ⟨lw_p56, List.forall_mem_cons.mpr ⟨lw_p57, List.forall_mem_cons.mpr ⟨lw_p58, List.forall_mem_cons.mpr ⟨lw_p59, List.forall_mem_cons.mpr ⟨lw_p60, List.forall_mem_cons.mpr ⟨lw_p61, List.forall_mem_cons.mpr ⟨lw_p62, List.forall_mem_cons.mpr ⟨lw_p63, fun _ h => absurd h List.not_mem_nil⟩⟩⟩⟩⟩⟩⟩⟩⟩⟩⟩⟩⟩⟩⟩⟩
theorem lw_p64 : lw_okq (⟨"RopePostModel", "otherEnd", "(II)I"⟩, 74) := ⟨⟨by decide +kernel, by decide +kernel⟩, List.mem_of_getElem? (i := 901) (by decide +kernel), List.mem_of_getElem? (i := 1277) (by decide +kernel), List.mem_of_getElem? (i := 1278) (by decide +kernel)⟩
theorem lw_p65 : lw_okq (⟨"RopePostModel", "mayRope", "(III)Z"⟩, 74) := ⟨⟨by decide +kernel, by decide +kernel⟩, List.mem_of_getElem? (i := 901) (by decide +kernel), List.mem_of_getElem? (i := 1281) (by decide +kernel), List.mem_of_getElem? (i := 1282) (by decide +kernel)⟩
theorem lw_p66 : lw_okq (⟨"RopePostModel", "poundsOf", "(II)I"⟩, 74) := ⟨⟨by decide +kernel, by decide +kernel⟩, List.mem_of_getElem? (i := 901) (by decide +kernel), List.mem_of_getElem? (i := 1285) (by decide +kernel), List.mem_of_getElem? (i := 1286) (by decide +kernel)⟩
theorem lw_p67 : lw_okq (⟨"RopePostModel", "hasKind", "(II)Z"⟩, 74) := ⟨⟨by decide +kernel, by decide +kernel⟩, List.mem_of_getElem? (i := 901) (by decide +kernel), List.mem_of_getElem? (i := 1292) (by decide +kernel), List.mem_of_getElem? (i := 1293) (by decide +kernel)⟩
theorem lw_p68 : lw_okq (⟨"RopePostModel", "minutesOn", "(IIIZ)I"⟩, 74) := ⟨⟨by decide +kernel, by decide +kernel⟩, List.mem_of_getElem? (i := 901) (by decide +kernel), List.mem_of_getElem? (i := 1297) (by decide +kernel), List.mem_of_getElem? (i := 1298) (by decide +kernel)⟩
theorem lw_p69 : lw_okq (⟨"RopePostModel", "minuteNow", "()V"⟩, 74) := ⟨⟨by decide +kernel, by decide +kernel⟩, List.mem_of_getElem? (i := 901) (by decide +kernel), List.mem_of_getElem? (i := 1317) (by decide +kernel), List.mem_of_getElem? (i := 1318) (by decide +kernel)⟩
theorem lw_p70 : lw_okq (⟨"RopePostModel", "arrive", "(I)V"⟩, 74) := ⟨⟨by decide +kernel, by decide +kernel⟩, List.mem_of_getElem? (i := 901) (by decide +kernel), List.mem_of_getElem? (i := 1321) (by decide +kernel), List.mem_of_getElem? (i := 1322) (by decide +kernel)⟩
theorem lw_p71 : lw_okq (⟨"RopePostModel", "draw", "(I)I"⟩, 74) := ⟨⟨by decide +kernel, by decide +kernel⟩, List.mem_of_getElem? (i := 901) (by decide +kernel), List.mem_of_getElem? (i := 1342) (by decide +kernel), List.mem_of_getElem? (i := 1343) (by decide +kernel)⟩
theorem lw_p72 : lw_okq (⟨"RopePostModel", "farOf", "(IIIZ)I"⟩, 74) := ⟨⟨by decide +kernel, by decide +kernel⟩, List.mem_of_getElem? (i := 901) (by decide +kernel), List.mem_of_getElem? (i := 1358) (by decide +kernel), List.mem_of_getElem? (i := 1359) (by decide +kernel)⟩
theorem lw_p73 : lw_okq (⟨"RopePostModel", "findReach", "(IIZ)V"⟩, 74) := ⟨⟨by decide +kernel, by decide +kernel⟩, List.mem_of_getElem? (i := 901) (by decide +kernel), List.mem_of_getElem? (i := 1362) (by decide +kernel), List.mem_of_getElem? (i := 1363) (by decide +kernel)⟩
theorem lw_p74 : lw_okq (⟨"RopePostModel", "roundOf", "(II)I"⟩, 74) := ⟨⟨by decide +kernel, by decide +kernel⟩, List.mem_of_getElem? (i := 901) (by decide +kernel), List.mem_of_getElem? (i := 1371) (by decide +kernel), List.mem_of_getElem? (i := 1372) (by decide +kernel)⟩
theorem lw_p75 : lw_okq (⟨"RopePostModel", "goOn", "(III)Z"⟩, 74) := ⟨⟨by decide +kernel, by decide +kernel⟩, List.mem_of_getElem? (i := 901) (by decide +kernel), List.mem_of_getElem? (i := 1378) (by decide +kernel), List.mem_of_getElem? (i := 1379) (by decide +kernel)⟩
theorem lw_p76 : lw_okq (⟨"RopePostModel", "carriedIn", "(I)I"⟩, 74) := ⟨⟨by decide +kernel, by decide +kernel⟩, List.mem_of_getElem? (i := 901) (by decide +kernel), List.mem_of_getElem? (i := 1382) (by decide +kernel), List.mem_of_getElem? (i := 1383) (by decide +kernel)⟩
theorem lw_p77 : lw_okq (⟨"RopePostModel", "better", "(II)Z"⟩, 74) := ⟨⟨by decide +kernel, by decide +kernel⟩, List.mem_of_getElem? (i := 901) (by decide +kernel), List.mem_of_getElem? (i := 1389) (by decide +kernel), List.mem_of_getElem? (i := 1390) (by decide +kernel)⟩
theorem lw_p78 : lw_okq (⟨"RopePostModel", "laidAt", "(II)I"⟩, 74) := ⟨⟨by decide +kernel, by decide +kernel⟩, List.mem_of_getElem? (i := 901) (by decide +kernel), List.mem_of_getElem? (i := 1393) (by decide +kernel), List.mem_of_getElem? (i := 1394) (by decide +kernel)⟩
theorem lw_p79 : lw_okq (⟨"RopePostModel", "findDealt", "()I"⟩, 74) := ⟨⟨by decide +kernel, by decide +kernel⟩, List.mem_of_getElem? (i := 901) (by decide +kernel), List.mem_of_getElem? (i := 1401) (by decide +kernel), List.mem_of_getElem? (i := 1402) (by decide +kernel)⟩
def lw_privs_5 : List (MethodName × Nat) := [(⟨"RopePostModel", "otherEnd", "(II)I"⟩, 74), (⟨"RopePostModel", "mayRope", "(III)Z"⟩, 74), (⟨"RopePostModel", "poundsOf", "(II)I"⟩, 74), (⟨"RopePostModel", "hasKind", "(II)Z"⟩, 74), (⟨"RopePostModel", "minutesOn", "(IIIZ)I"⟩, 74), (⟨"RopePostModel", "minuteNow", "()V"⟩, 74), (⟨"RopePostModel", "arrive", "(I)V"⟩, 74), (⟨"RopePostModel", "draw", "(I)I"⟩, 74), (⟨"RopePostModel", "farOf", "(IIIZ)I"⟩, 74), (⟨"RopePostModel", "findReach", "(IIZ)V"⟩, 74), (⟨"RopePostModel", "roundOf", "(II)I"⟩, 74), (⟨"RopePostModel", "goOn", "(III)Z"⟩, 74), (⟨"RopePostModel", "carriedIn", "(I)I"⟩, 74), (⟨"RopePostModel", "better", "(II)Z"⟩, 74), (⟨"RopePostModel", "laidAt", "(II)I"⟩, 74), (⟨"RopePostModel", "findDealt", "()I"⟩, 74)]
theorem lw_r5 : ∀ q ∈ lw_privs_5, lw_okq q := List.forall_mem_cons.mpr ⟨lw_p64, List.forall_mem_cons.mpr ⟨lw_p65, List.forall_mem_cons.mpr ⟨lw_p66, List.forall_mem_cons.mpr ⟨lw_p67, List.forall_mem_cons.mpr ⟨lw_p68, List.forall_mem_cons.mpr ⟨lw_p69, List.forall_mem_cons.mpr ⟨lw_p70, List.forall_mem_cons.mpr ⟨lw_p71, List.forall_mem_cons.mpr ⟨lw_p72, List.forall_mem_cons.mpr ⟨lw_p73, List.forall_mem_cons.mpr ⟨lw_p74, List.forall_mem_cons.mpr ⟨lw_p75, List.forall_mem_cons.mpr ⟨lw_p76, List.forall_mem_cons.mpr ⟨lw_p77, List.forall_mem_cons.mpr ⟨lw_p78, List.forall_mem_cons.mpr ⟨lw_p79, fun _ h => absurd h List.not_mem_nil⟩⟩⟩⟩⟩⟩⟩⟩⟩⟩⟩⟩⟩⟩⟩⟩
theorem lw_p80 : lw_okq (⟨"RopePostModel", "longestBy", "(I)I"⟩, 74) := ⟨⟨by decide +kernel, by decide +kernel⟩, List.mem_of_getElem? (i := 901) (by decide +kernel), List.mem_of_getElem? (i := 1405) (by decide +kernel), List.mem_of_getElem? (i := 1406) (by decide +kernel)⟩
theorem lw_p81 : lw_okq (⟨"RopePostModel", "isSafe", "(II)Z"⟩, 74) := ⟨⟨by decide +kernel, by decide +kernel⟩, List.mem_of_getElem? (i := 901) (by decide +kernel), List.mem_of_getElem? (i := 1413) (by decide +kernel), List.mem_of_getElem? (i := 1414) (by decide +kernel)⟩
theorem lw_p82 : lw_okq (⟨"RopePostModel", "areJoined", "(II)Z"⟩, 74) := ⟨⟨by decide +kernel, by decide +kernel⟩, List.mem_of_getElem? (i := 901) (by decide +kernel), List.mem_of_getElem? (i := 1417) (by decide +kernel), List.mem_of_getElem? (i := 1418) (by decide +kernel)⟩
theorem lw_p83 : lw_okq (⟨"RopePostModel", "hasWhole", "(II)Z"⟩, 74) := ⟨⟨by decide +kernel, by decide +kernel⟩, List.mem_of_getElem? (i := 901) (by decide +kernel), List.mem_of_getElem? (i := 1426) (by decide +kernel), List.mem_of_getElem? (i := 1427) (by decide +kernel)⟩
theorem lw_p84 : lw_okq (⟨"RopePostModel", "apart", "(II)I"⟩, 74) := ⟨⟨by decide +kernel, by decide +kernel⟩, List.mem_of_getElem? (i := 901) (by decide +kernel), List.mem_of_getElem? (i := 1430) (by decide +kernel), List.mem_of_getElem? (i := 1431) (by decide +kernel)⟩
theorem lw_p85 : lw_okq (⟨"RopePostModel", "sumWith", "(II)I"⟩, 74) := ⟨⟨by decide +kernel, by decide +kernel⟩, List.mem_of_getElem? (i := 901) (by decide +kernel), List.mem_of_getElem? (i := 1437) (by decide +kernel), List.mem_of_getElem? (i := 1438) (by decide +kernel)⟩
theorem lw_p86 : lw_okq (⟨"RopePostModel", "shorten", "(III)V"⟩, 74) := ⟨⟨by decide +kernel, by decide +kernel⟩, List.mem_of_getElem? (i := 901) (by decide +kernel), List.mem_of_getElem? (i := 1441) (by decide +kernel), List.mem_of_getElem? (i := 1442) (by decide +kernel)⟩
theorem lw_p87 : lw_okq (⟨"RopePostModel", "areTwo", "(II)Z"⟩, 74) := ⟨⟨by decide +kernel, by decide +kernel⟩, List.mem_of_getElem? (i := 901) (by decide +kernel), List.mem_of_getElem? (i := 1449) (by decide +kernel), List.mem_of_getElem? (i := 1450) (by decide +kernel)⟩
theorem lw_p88 : lw_okq (⟨"RopePostModel", "oddsOf", "(III)I"⟩, 74) := ⟨⟨by decide +kernel, by decide +kernel⟩, List.mem_of_getElem? (i := 901) (by decide +kernel), List.mem_of_getElem? (i := 1453) (by decide +kernel), List.mem_of_getElem? (i := 1454) (by decide +kernel)⟩
theorem lw_p89 : lw_okq (⟨"RopePostModel", "couldBe", "(III)Z"⟩, 74) := ⟨⟨by decide +kernel, by decide +kernel⟩, List.mem_of_getElem? (i := 901) (by decide +kernel), List.mem_of_getElem? (i := 1474) (by decide +kernel), List.mem_of_getElem? (i := 1475) (by decide +kernel)⟩
theorem lw_p90 : lw_okq (⟨"RopePostModel", "canCome", "(IIII)Z"⟩, 74) := ⟨⟨by decide +kernel, by decide +kernel⟩, List.mem_of_getElem? (i := 901) (by decide +kernel), List.mem_of_getElem? (i := 1478) (by decide +kernel), List.mem_of_getElem? (i := 1479) (by decide +kernel)⟩
def lw_privs_6 : List (MethodName × Nat) := [(⟨"RopePostModel", "longestBy", "(I)I"⟩, 74), (⟨"RopePostModel", "isSafe", "(II)Z"⟩, 74), (⟨"RopePostModel", "areJoined", "(II)Z"⟩, 74), (⟨"RopePostModel", "hasWhole", "(II)Z"⟩, 74), (⟨"RopePostModel", "apart", "(II)I"⟩, 74), (⟨"RopePostModel", "sumWith", "(II)I"⟩, 74), (⟨"RopePostModel", "shorten", "(III)V"⟩, 74), (⟨"RopePostModel", "areTwo", "(II)Z"⟩, 74), (⟨"RopePostModel", "oddsOf", "(III)I"⟩, 74), (⟨"RopePostModel", "couldBe", "(III)Z"⟩, 74), (⟨"RopePostModel", "canCome", "(IIII)Z"⟩, 74)]
theorem lw_r6 : ∀ q ∈ lw_privs_6, lw_okq q := List.forall_mem_cons.mpr ⟨lw_p80, List.forall_mem_cons.mpr ⟨lw_p81, List.forall_mem_cons.mpr ⟨lw_p82, List.forall_mem_cons.mpr ⟨lw_p83, List.forall_mem_cons.mpr ⟨lw_p84, List.forall_mem_cons.mpr ⟨lw_p85, List.forall_mem_cons.mpr ⟨lw_p86, List.forall_mem_cons.mpr ⟨lw_p87, List.forall_mem_cons.mpr ⟨lw_p88, List.forall_mem_cons.mpr ⟨lw_p89, List.forall_mem_cons.mpr ⟨lw_p90, fun _ h => absurd h List.not_mem_nil⟩⟩⟩⟩⟩⟩⟩⟩⟩⟩⟩
def lw_privs : List (MethodName × Nat) := lw_privs_1 ++ (lw_privs_2 ++ (lw_privs_3 ++ (lw_privs_4 ++ (lw_privs_5 ++ (lw_privs_6)))))
def lw_tbl : List Cond := k2_sels lw_privs ++ tables_1
theorem lw_privs_ok : ∀ q ∈ lw_privs, lw_okq q := by
  show ∀ q ∈ lw_privs_1 ++ (lw_privs_2 ++ (lw_privs_3 ++ (lw_privs_4 ++ (lw_privs_5 ++ (lw_privs_6))))), lw_okq q
  exact List.forall_mem_append.mpr ⟨lw_r1, List.forall_mem_append.mpr ⟨lw_r2, List.forall_mem_append.mpr ⟨lw_r3, List.forall_mem_append.mpr ⟨lw_r4, List.forall_mem_append.mpr ⟨lw_r5, lw_r6⟩⟩⟩⟩⟩

def RX0 : String := "RopePost$Book"
def TX0 : u_T := fun k => match k with
  | 0 => ("RopePost$Book", "count", "I", false)
  | 1 => ("RopePost$Book", "boy", "[I", true)
  | 2 => ("RopePost$Book", "pole", "[I", true)
  | _ => ("RopePost$Book", "minute", "[I", true)
def tyX0 : Nat → FieldType := fun k => match k with
  | 0 => .int
  | 1 => .array .int
  | 2 => .array .int
  | _ => .array .int
theorem nmX0 : ∀ a, a < 4 → ∀ b, b < 4 → a ≠ b → (TX0 a).2.1 ≠ (TX0 b).2.1 := by decide +kernel
theorem tyX0_ok : ∀ k, k < 4 → parseFieldDescriptor (TX0 k).2.2.1 = some (tyX0 k) := by decide +kernel
abbrev cX0_init : ByteArray := prog_2_method_1_code
def yX0_init : MethodName := ⟨RX0, "<init>", "()V"⟩
abbrev cX0_add : ByteArray := prog_2_method_2_code
def yX0_add : MethodName := ⟨RX0, "add", "(III)V"⟩
abbrev cX0_lastUntil : ByteArray := prog_2_method_3_code
def yX0_lastUntil : MethodName := ⟨RX0, "lastUntil", "(II)I"⟩
abbrev cX0_firstAfter : ByteArray := prog_2_method_4_code
def yX0_firstAfter : MethodName := ⟨RX0, "firstAfter", "(II)I"⟩
abbrev cX0_toldAhead : ByteArray := prog_2_method_5_code
def yX0_toldAhead : MethodName := ⟨RX0, "toldAhead", "(I)I"⟩
def RX1 : String := "RopePost$Dealer"
def TX1 : u_T := fun k => match k with
  | 0 => ("RopePost$Dealer", "rounds", "[I", true)
  | 1 => ("RopePost$Dealer", "deal", "I", false)
  | _ => ("RopePost$Dealer", "longest", "I", false)
def tyX1 : Nat → FieldType := fun k => match k with
  | 0 => .array .int
  | 1 => .int
  | _ => .int
theorem nmX1 : ∀ a, a < 3 → ∀ b, b < 3 → a ≠ b → (TX1 a).2.1 ≠ (TX1 b).2.1 := by decide +kernel
theorem tyX1_ok : ∀ k, k < 3 → parseFieldDescriptor (TX1 k).2.2.1 = some (tyX1 k) := by decide +kernel
abbrev cX1_init : ByteArray := prog_3_method_1_code
def yX1_init : MethodName := ⟨RX1, "<init>", "()V"⟩
abbrev cX1_setRound : ByteArray := prog_3_method_2_code
def yX1_setRound : MethodName := ⟨RX1, "setRound", "(III)V"⟩
abbrev cX1_deal : ByteArray := prog_3_method_3_code
def yX1_deal : MethodName := ⟨RX1, "deal", "(II)V"⟩
abbrev cX1_boyOf : ByteArray := prog_3_method_4_code
def yX1_boyOf : MethodName := ⟨RX1, "boyOf", "(II)I"⟩
abbrev cX1_boyIn : ByteArray := prog_3_method_5_code
def yX1_boyIn : MethodName := ⟨RX1, "boyIn", "(II)I"⟩
abbrev cX1_isDeal : ByteArray := prog_3_method_6_code
def yX1_isDeal : MethodName := ⟨RX1, "isDeal", "(III)Z"⟩
abbrev cX1_longestOf : ByteArray := prog_3_method_7_code
def yX1_longestOf : MethodName := ⟨RX1, "longestOf", "(III)I"⟩
def RX2 : String := "RopePost$Plan"
def TX2 : u_T := fun k => match k with
  | 0 => ("RopePost$Plan", "poles", "I", false)
  | 1 => ("RopePost$Plan", "ropes", "I", false)
  | 2 => ("RopePost$Plan", "boys", "I", false)
  | 3 => ("RopePost$Plan", "loads", "I", false)
  | 4 => ("RopePost$Plan", "x", "[I", true)
  | 5 => ("RopePost$Plan", "y", "[I", true)
  | 6 => ("RopePost$Plan", "bears", "[I", true)
  | 7 => ("RopePost$Plan", "ropesAt", "[I", true)
  | 8 => ("RopePost$Plan", "ropeFrom", "[I", true)
  | 9 => ("RopePost$Plan", "ropeTo", "[I", true)
  | 10 => ("RopePost$Plan", "feet", "[I", true)
  | 11 => ("RopePost$Plan", "carries", "[I", true)
  | 12 => ("RopePost$Plan", "home", "[I", true)
  | 13 => ("RopePost$Plan", "boyPounds", "[I", true)
  | 14 => ("RopePost$Plan", "pace", "[I", true)
  | 15 => ("RopePost$Plan", "loadFrom", "[I", true)
  | 16 => ("RopePost$Plan", "loadTo", "[I", true)
  | 17 => ("RopePost$Plan", "loadPounds", "[I", true)
  | 18 => ("RopePost$Plan", "worth", "[I", true)
  | _ => ("RopePost$Plan", "kind", "[I", true)
def tyX2 : Nat → FieldType := fun k => match k with
  | 0 => .int
  | 1 => .int
  | 2 => .int
  | 3 => .int
  | 4 => .array .int
  | 5 => .array .int
  | 6 => .array .int
  | 7 => .array .int
  | 8 => .array .int
  | 9 => .array .int
  | 10 => .array .int
  | 11 => .array .int
  | 12 => .array .int
  | 13 => .array .int
  | 14 => .array .int
  | 15 => .array .int
  | 16 => .array .int
  | 17 => .array .int
  | 18 => .array .int
  | _ => .array .int
theorem nmX2 : ∀ a, a < 20 → ∀ b, b < 20 → a ≠ b → (TX2 a).2.1 ≠ (TX2 b).2.1 := by decide +kernel
theorem tyX2_ok : ∀ k, k < 20 → parseFieldDescriptor (TX2 k).2.2.1 = some (tyX2 k) := by decide +kernel
abbrev cX2_init : ByteArray := prog_4_method_1_code
def yX2_init : MethodName := ⟨RX2, "<init>", "()V"⟩
abbrev cX2_clear : ByteArray := prog_4_method_2_code
def yX2_clear : MethodName := ⟨RX2, "clear", "()V"⟩
abbrev cX2_endsOf : ByteArray := prog_4_method_3_code
def yX2_endsOf : MethodName := ⟨RX2, "endsOf", "(I)I"⟩
abbrev cX2_otherEnd : ByteArray := prog_4_method_4_code
def yX2_otherEnd : MethodName := ⟨RX2, "otherEnd", "(II)I"⟩
abbrev cX2_boysTold : ByteArray := prog_4_method_5_code
def yX2_boysTold : MethodName := ⟨RX2, "boysTold", "(I)I"⟩
abbrev cX2_poundsOf : ByteArray := prog_4_method_6_code
def yX2_poundsOf : MethodName := ⟨RX2, "poundsOf", "(I)I"⟩
abbrev cX2_anyOfKind : ByteArray := prog_4_method_7_code
def yX2_anyOfKind : MethodName := ⟨RX2, "anyOfKind", "(II)Z"⟩
abbrev cX2_feetApart : ByteArray := prog_4_method_8_code
def yX2_feetApart : MethodName := ⟨RX2, "feetApart", "(II)I"⟩
def RX3 : String := "RopePost$Reader"
def TX3 : u_T := fun k => match k with
  | 0 => ("RopePost$Reader", "text", "[B", true)
  | 1 => ("RopePost$Reader", "length", "I", false)
  | 2 => ("RopePost$Reader", "fault", "I", false)
  | 3 => ("RopePost$Reader", "faultAt", "I", false)
  | 4 => ("RopePost$Reader", "at", "I", false)
  | 5 => ("RopePost$Reader", "start", "I", false)
  | _ => ("RopePost$Reader", "number", "I", false)
def tyX3 : Nat → FieldType := fun k => match k with
  | 0 => .array .byte
  | 1 => .int
  | 2 => .int
  | 3 => .int
  | 4 => .int
  | 5 => .int
  | _ => .int
theorem nmX3 : ∀ a, a < 7 → ∀ b, b < 7 → a ≠ b → (TX3 a).2.1 ≠ (TX3 b).2.1 := by decide +kernel
theorem tyX3_ok : ∀ k, k < 7 → parseFieldDescriptor (TX3 k).2.2.1 = some (tyX3 k) := by decide +kernel
abbrev cX3_init : ByteArray := prog_5_method_1_code
def yX3_init : MethodName := ⟨RX3, "<init>", "()V"⟩
abbrev cX3_append : ByteArray := prog_5_method_2_code
def yX3_append : MethodName := ⟨RX3, "append", "(B)V"⟩
abbrev cX3_read : ByteArray := prog_5_method_3_code
def yX3_read : MethodName := ⟨RX3, "read", "(LRopePost$Plan;)Z"⟩
abbrev cX3_isMore : ByteArray := prog_5_method_4_code
def yX3_isMore : MethodName := ⟨RX3, "isMore", "()Z"⟩
abbrev cX3_readClause : ByteArray := prog_5_method_5_code
def yX3_readClause : MethodName := ⟨RX3, "readClause", "(LRopePost$Plan;)Z"⟩
abbrev cX3_readPole : ByteArray := prog_5_method_6_code
def yX3_readPole : MethodName := ⟨RX3, "readPole", "(LRopePost$Plan;)Z"⟩
abbrev cX3_readRope : ByteArray := prog_5_method_7_code
def yX3_readRope : MethodName := ⟨RX3, "readRope", "(LRopePost$Plan;)Z"⟩
abbrev cX3_readBoy : ByteArray := prog_5_method_8_code
def yX3_readBoy : MethodName := ⟨RX3, "readBoy", "(LRopePost$Plan;)Z"⟩
abbrev cX3_readLoad : ByteArray := prog_5_method_9_code
def yX3_readLoad : MethodName := ⟨RX3, "readLoad", "(LRopePost$Plan;)Z"⟩
abbrev cX3_readOtherPole : ByteArray := prog_5_method_10_code
def yX3_readOtherPole : MethodName := ⟨RX3, "readOtherPole", "(LRopePost$Plan;I)Z"⟩
abbrev cX3_readKind : ByteArray := prog_5_method_11_code
def yX3_readKind : MethodName := ⟨RX3, "readKind", "()Z"⟩
abbrev cX3_kindOfWord : ByteArray := prog_5_method_12_code
def yX3_kindOfWord : MethodName := ⟨RX3, "kindOfWord", "()I"⟩
abbrev cX3_readEnd : ByteArray := prog_5_method_13_code
def yX3_readEnd : MethodName := ⟨RX3, "readEnd", "()Z"⟩
abbrev cX3_readNumber : ByteArray := prog_5_method_14_code
def yX3_readNumber : MethodName := ⟨RX3, "readNumber", "(II)Z"⟩
abbrev cX3_readLetters : ByteArray := prog_5_method_15_code
def yX3_readLetters : MethodName := ⟨RX3, "readLetters", "()V"⟩
abbrev cX3_isWord : ByteArray := prog_5_method_16_code
def yX3_isWord : MethodName := ⟨RX3, "isWord", "(Ljava/lang/String;)Z"⟩
abbrev cX3_skipBlanks : ByteArray := prog_5_method_17_code
def yX3_skipBlanks : MethodName := ⟨RX3, "skipBlanks", "()V"⟩
abbrev cX3_hasRoom : ByteArray := prog_5_method_18_code
def yX3_hasRoom : MethodName := ⟨RX3, "hasRoom", "(II)Z"⟩
abbrev cX3_fail : ByteArray := prog_5_method_19_code
def yX3_fail : MethodName := ⟨RX3, "fail", "(II)Z"⟩
def RX4 : String := "RopePost$Rounds"
def TX4 : u_T := fun k => match k with
  | 0 => ("RopePost$Rounds", "from", "[I", true)
  | 1 => ("RopePost$Rounds", "to", "[I", true)
  | 2 => ("RopePost$Rounds", "ways", "[I", true)
  | _ => ("RopePost$Rounds", "rest", "[I", true)
def tyX4 : Nat → FieldType := fun k => match k with
  | 0 => .array .int
  | 1 => .array .int
  | 2 => .array .int
  | _ => .array .int
theorem nmX4 : ∀ a, a < 4 → ∀ b, b < 4 → a ≠ b → (TX4 a).2.1 ≠ (TX4 b).2.1 := by decide +kernel
theorem tyX4_ok : ∀ k, k < 4 → parseFieldDescriptor (TX4 k).2.2.1 = some (tyX4 k) := by decide +kernel
abbrev cX4_init : ByteArray := prog_6_method_1_code
def yX4_init : MethodName := ⟨RX4, "<init>", "()V"⟩
abbrev cX4_canBeCarried : ByteArray := prog_6_method_2_code
def yX4_canBeCarried : MethodName := ⟨RX4, "canBeCarried", "(II)Z"⟩
abbrev cX4_setWays : ByteArray := prog_6_method_3_code
def yX4_setWays : MethodName := ⟨RX4, "setWays", "(ILRopePost$Ways;)V"⟩
abbrev cX4_rest : ByteArray := prog_6_method_4_code
def yX4_rest : MethodName := ⟨RX4, "rest", "(III)I"⟩
abbrev cX4_solve : ByteArray := prog_6_method_5_code
def yX4_solve : MethodName := ⟨RX4, "solve", "(II)V"⟩
abbrev cX4_leastFrom : ByteArray := prog_6_method_6_code
def yX4_leastFrom : MethodName := ⟨RX4, "leastFrom", "(III)I"⟩
abbrev cX4_way : ByteArray := prog_6_method_7_code
def yX4_way : MethodName := ⟨RX4, "way", "(III)I"⟩
def RX5 : String := "RopePost$State"
def TX5 : u_T := fun k => match k with
  | 0 => ("RopePost$State", "minute", "I", false)
  | 1 => ("RopePost$State", "had", "I", false)
  | 2 => ("RopePost$State", "seed", "I", false)
  | 3 => ("RopePost$State", "whole", "I", false)
  | 4 => ("RopePost$State", "wet", "I", false)
  | 5 => ("RopePost$State", "delivered", "I", false)
  | 6 => ("RopePost$State", "rings", "I", false)
  | 7 => ("RopePost$State", "wear", "[I", true)
  | 8 => ("RopePost$State", "boyEnd", "[I", true)
  | 9 => ("RopePost$State", "boyRope", "[I", true)
  | 10 => ("RopePost$State", "boyLeft", "[I", true)
  | 11 => ("RopePost$State", "loadPole", "[I", true)
  | 12 => ("RopePost$State", "loadBoy", "[I", true)
  | 13 => ("RopePost$State", "ringMinute", "[I", true)
  | _ => ("RopePost$State", "ringRope", "[I", true)
def tyX5 : Nat → FieldType := fun k => match k with
  | 0 => .int
  | 1 => .int
  | 2 => .int
  | 3 => .int
  | 4 => .int
  | 5 => .int
  | 6 => .int
  | 7 => .array .int
  | 8 => .array .int
  | 9 => .array .int
  | 10 => .array .int
  | 11 => .array .int
  | 12 => .array .int
  | 13 => .array .int
  | _ => .array .int
theorem nmX5 : ∀ a, a < 15 → ∀ b, b < 15 → a ≠ b → (TX5 a).2.1 ≠ (TX5 b).2.1 := by decide +kernel
theorem tyX5_ok : ∀ k, k < 15 → parseFieldDescriptor (TX5 k).2.2.1 = some (tyX5 k) := by decide +kernel
abbrev cX5_init : ByteArray := prog_7_method_1_code
def yX5_init : MethodName := ⟨RX5, "<init>", "()V"⟩
abbrev cX5_begin : ByteArray := prog_7_method_2_code
def yX5_begin : MethodName := ⟨RX5, "begin", "(LRopePost$Plan;)V"⟩
abbrev cX5_copy : ByteArray := prog_7_method_3_code
def yX5_copy : MethodName := ⟨RX5, "copy", "(LRopePost$State;)V"⟩
abbrev cX5_isOnRope : ByteArray := prog_7_method_4_code
def yX5_isOnRope : MethodName := ⟨RX5, "isOnRope", "(I)Z"⟩
abbrev cX5_boyOn : ByteArray := prog_7_method_5_code
def yX5_boyOn : MethodName := ⟨RX5, "boyOn", "(II)I"⟩
abbrev cX5_boysAt : ByteArray := prog_7_method_6_code
def yX5_boysAt : MethodName := ⟨RX5, "boysAt", "(II)I"⟩
abbrev cX5_loadsAt : ByteArray := prog_7_method_7_code
def yX5_loadsAt : MethodName := ⟨RX5, "loadsAt", "(II)I"⟩
abbrev cX5_carriedBy : ByteArray := prog_7_method_8_code
def yX5_carriedBy : MethodName := ⟨RX5, "carriedBy", "(II)I"⟩
abbrev cX5_addRing : ByteArray := prog_7_method_9_code
def yX5_addRing : MethodName := ⟨RX5, "addRing", "(I)V"⟩
abbrev cX5_addWear : ByteArray := prog_7_method_10_code
def yX5_addWear : MethodName := ⟨RX5, "addWear", "(II)V"⟩
abbrev cX5_setWet : ByteArray := prog_7_method_11_code
def yX5_setWet : MethodName := ⟨RX5, "setWet", "(IZ)V"⟩
abbrev cX5_draw : ByteArray := prog_7_method_12_code
def yX5_draw : MethodName := ⟨RX5, "draw", "(I)I"⟩
def RX6 : String := "RopePost$Ways"
def TX6 : u_T := fun k => match k with
  | 0 => ("RopePost$Ways", "cost", "[I", true)
  | 1 => ("RopePost$Ways", "least", "[I", true)
  | _ => ("RopePost$Ways", "poles", "I", false)
def tyX6 : Nat → FieldType := fun k => match k with
  | 0 => .array .int
  | 1 => .array .int
  | _ => .int
theorem nmX6 : ∀ a, a < 3 → ∀ b, b < 3 → a ≠ b → (TX6 a).2.1 ≠ (TX6 b).2.1 := by decide +kernel
theorem tyX6_ok : ∀ k, k < 3 → parseFieldDescriptor (TX6 k).2.2.1 = some (tyX6 k) := by decide +kernel
abbrev cX6_init : ByteArray := prog_8_method_1_code
def yX6_init : MethodName := ⟨RX6, "<init>", "()V"⟩
abbrev cX6_spread : ByteArray := prog_8_method_2_code
def yX6_spread : MethodName := ⟨RX6, "spread", "(LRopePost$Plan;)V"⟩
abbrev cX6_spreadBy : ByteArray := prog_8_method_3_code
def yX6_spreadBy : MethodName := ⟨RX6, "spreadBy", "(I)V"⟩
abbrev cX6_shorten : ByteArray := prog_8_method_4_code
def yX6_shorten : MethodName := ⟨RX6, "shorten", "(III)V"⟩
abbrev cX6_between : ByteArray := prog_8_method_5_code
def yX6_between : MethodName := ⟨RX6, "between", "(II)I"⟩
abbrev cX6_sumWith : ByteArray := prog_8_method_6_code
def yX6_sumWith : MethodName := ⟨RX6, "sumWith", "(III)I"⟩
def RX7 : String := "RopePost"
def TX7 : u_T := fun k => match k with
  | 0 => ("RopePost", "reader", "LRopePost$Reader;", true)
  | 1 => ("RopePost", "plan", "LRopePost$Plan;", false)
  | 2 => ("RopePost", "nextPlan", "LRopePost$Plan;", false)
  | 3 => ("RopePost", "now", "LRopePost$State;", true)
  | 4 => ("RopePost", "images", "[LRopePost$State;", true)
  | 5 => ("RopePost", "imagesKept", "I", false)
  | 6 => ("RopePost", "book", "LRopePost$Book;", true)
  | 7 => ("RopePost", "ways", "LRopePost$Ways;", true)
  | 8 => ("RopePost", "rounds", "LRopePost$Rounds;", true)
  | _ => ("RopePost", "dealer", "LRopePost$Dealer;", true)
def tyX7 : Nat → FieldType := fun k => match k with
  | 0 => .object "RopePost$Reader"
  | 1 => .object "RopePost$Plan"
  | 2 => .object "RopePost$Plan"
  | 3 => .object "RopePost$State"
  | 4 => .array (.object "RopePost$State")
  | 5 => .int
  | 6 => .object "RopePost$Book"
  | 7 => .object "RopePost$Ways"
  | 8 => .object "RopePost$Rounds"
  | _ => .object "RopePost$Dealer"
theorem nmX7 : ∀ a, a < 10 → ∀ b, b < 10 → a ≠ b → (TX7 a).2.1 ≠ (TX7 b).2.1 := by decide +kernel
theorem tyX7_ok : ∀ k, k < 10 → parseFieldDescriptor (TX7 k).2.2.1 = some (tyX7 k) := by decide +kernel
abbrev cX7_init : ByteArray := prog_1_method_1_code
def yX7_init : MethodName := ⟨RX7, "<init>", "()V"⟩
abbrev cX7_feed : ByteArray := prog_1_method_2_code
def yX7_feed : MethodName := ⟨RX7, "feed", "(IJ)I"⟩
abbrev cX7_town : ByteArray := prog_1_method_3_code
def yX7_town : MethodName := ⟨RX7, "town", "()I"⟩
abbrev cX7_fault : ByteArray := prog_1_method_4_code
def yX7_fault : MethodName := ⟨RX7, "fault", "()I"⟩
abbrev cX7_told : ByteArray := prog_1_method_5_code
def yX7_told : MethodName := ⟨RX7, "told", "(I)I"⟩
abbrev cX7_pole : ByteArray := prog_1_method_6_code
def yX7_pole : MethodName := ⟨RX7, "pole", "(II)I"⟩
abbrev cX7_rope : ByteArray := prog_1_method_7_code
def yX7_rope : MethodName := ⟨RX7, "rope", "(II)I"⟩
abbrev cX7_boy : ByteArray := prog_1_method_8_code
def yX7_boy : MethodName := ⟨RX7, "boy", "(II)I"⟩
abbrev cX7_load : ByteArray := prog_1_method_9_code
def yX7_load : MethodName := ⟨RX7, "load", "(II)I"⟩
abbrev cX7_go : ByteArray := prog_1_method_10_code
def yX7_go : MethodName := ⟨RX7, "go", "(II)I"⟩
abbrev cX7_take : ByteArray := prog_1_method_11_code
def yX7_take : MethodName := ⟨RX7, "take", "(II)I"⟩
abbrev cX7_lay : ByteArray := prog_1_method_12_code
def yX7_lay : MethodName := ⟨RX7, "lay", "(II)I"⟩
abbrev cX7_pass : ByteArray := prog_1_method_13_code
def yX7_pass : MethodName := ⟨RX7, "pass", "(I)I"⟩
abbrev cX7_cut : ByteArray := prog_1_method_14_code
def yX7_cut : MethodName := ⟨RX7, "cut", "(I)I"⟩
abbrev cX7_splice : ByteArray := prog_1_method_15_code
def yX7_splice : MethodName := ⟨RX7, "splice", "(I)I"⟩
abbrev cX7_wet : ByteArray := prog_1_method_16_code
def yX7_wet : MethodName := ⟨RX7, "wet", "(IZ)I"⟩
abbrev cX7_storm : ByteArray := prog_1_method_17_code
def yX7_storm : MethodName := ⟨RX7, "storm", "(I)I"⟩
abbrev cX7_ring : ByteArray := prog_1_method_18_code
def yX7_ring : MethodName := ⟨RX7, "ring", "(II)I"⟩
abbrev cX7_far : ByteArray := prog_1_method_19_code
def yX7_far : MethodName := ⟨RX7, "far", "(III)I"⟩
abbrev cX7_round : ByteArray := prog_1_method_20_code
def yX7_round : MethodName := ⟨RX7, "round", "(II)I"⟩
abbrev cX7_dealt : ByteArray := prog_1_method_21_code
def yX7_dealt : MethodName := ⟨RX7, "dealt", "(I)I"⟩
abbrev cX7_kept : ByteArray := prog_1_method_22_code
def yX7_kept : MethodName := ⟨RX7, "kept", "(I)I"⟩
abbrev cX7_newRope : ByteArray := prog_1_method_23_code
def yX7_newRope : MethodName := ⟨RX7, "newRope", "(I)I"⟩
abbrev cX7_odds : ByteArray := prog_1_method_24_code
def yX7_odds : MethodName := ⟨RX7, "odds", "(III)I"⟩
abbrev cX7_pays : ByteArray := prog_1_method_25_code
def yX7_pays : MethodName := ⟨RX7, "pays", "(IIIIII)I"⟩
abbrev cX7_see : ByteArray := prog_1_method_26_code
def yX7_see : MethodName := ⟨RX7, "see", "(III)I"⟩
abbrev cX7_forget : ByteArray := prog_1_method_27_code
def yX7_forget : MethodName := ⟨RX7, "forget", "()I"⟩
abbrev cX7_who : ByteArray := prog_1_method_28_code
def yX7_who : MethodName := ⟨RX7, "who", "(II)I"⟩
abbrev cX7_judge : ByteArray := prog_1_method_29_code
def yX7_judge : MethodName := ⟨RX7, "judge", "()I"⟩
abbrev cX7_seed : ByteArray := prog_1_method_30_code
def yX7_seed : MethodName := ⟨RX7, "seed", "(I)I"⟩
abbrev cX7_keep : ByteArray := prog_1_method_31_code
def yX7_keep : MethodName := ⟨RX7, "keep", "(I)I"⟩
abbrev cX7_goBack : ByteArray := prog_1_method_32_code
def yX7_goBack : MethodName := ⟨RX7, "goBack", "(I)I"⟩
abbrev cX7_isPole : ByteArray := prog_1_method_33_code
def yX7_isPole : MethodName := ⟨RX7, "isPole", "(I)Z"⟩
abbrev cX7_isRope : ByteArray := prog_1_method_34_code
def yX7_isRope : MethodName := ⟨RX7, "isRope", "(I)Z"⟩
abbrev cX7_isBoy : ByteArray := prog_1_method_35_code
def yX7_isBoy : MethodName := ⟨RX7, "isBoy", "(I)Z"⟩
abbrev cX7_isLoad : ByteArray := prog_1_method_36_code
def yX7_isLoad : MethodName := ⟨RX7, "isLoad", "(I)Z"⟩
abbrev cX7_isSetBelow : ByteArray := prog_1_method_37_code
def yX7_isSetBelow : MethodName := ⟨RX7, "isSetBelow", "(II)Z"⟩
abbrev cX7_has : ByteArray := prog_1_method_38_code
def yX7_has : MethodName := ⟨RX7, "has", "(II)Z"⟩
abbrev cX7_bit : ByteArray := prog_1_method_39_code
def yX7_bit : MethodName := ⟨RX7, "bit", "(II)I"⟩
abbrev cX7_orNone : ByteArray := prog_1_method_40_code
def yX7_orNone : MethodName := ⟨RX7, "orNone", "(I)I"⟩
abbrev cX7_mayBeGone : ByteArray := prog_1_method_41_code
def yX7_mayBeGone : MethodName := ⟨RX7, "mayBeGone", "(III)Z"⟩
abbrev cX7_minutesOn : ByteArray := prog_1_method_42_code
def yX7_minutesOn : MethodName := ⟨RX7, "minutesOn", "(IIIZ)I"⟩
abbrev cX7_passMinute : ByteArray := prog_1_method_43_code
def yX7_passMinute : MethodName := ⟨RX7, "passMinute", "()V"⟩
abbrev cX7_moveOn : ByteArray := prog_1_method_44_code
def yX7_moveOn : MethodName := ⟨RX7, "moveOn", "(I)V"⟩
abbrev cX7_arrive : ByteArray := prog_1_method_45_code
def yX7_arrive : MethodName := ⟨RX7, "arrive", "(I)V"⟩
abbrev cX7_deliver : ByteArray := prog_1_method_46_code
def yX7_deliver : MethodName := ⟨RX7, "deliver", "(I)V"⟩
abbrev cX7_spreadMinutes : ByteArray := prog_1_method_47_code
def yX7_spreadMinutes : MethodName := ⟨RX7, "spreadMinutes", "(IIZ)V"⟩
abbrev cX7_minutesBetween : ByteArray := prog_1_method_48_code
def yX7_minutesBetween : MethodName := ⟨RX7, "minutesBetween", "(IIIZ)I"⟩
abbrev cX7_learnRounds : ByteArray := prog_1_method_49_code
def yX7_learnRounds : MethodName := ⟨RX7, "learnRounds", "(II)V"⟩
abbrev cX7_roundOf : ByteArray := prog_1_method_50_code
def yX7_roundOf : MethodName := ⟨RX7, "roundOf", "(II)I"⟩
abbrev cX7_outlivesCuts : ByteArray := prog_1_method_51_code
def yX7_outlivesCuts : MethodName := ⟨RX7, "outlivesCuts", "(II)Z"⟩
abbrev cX7_joins : ByteArray := prog_1_method_52_code
def yX7_joins : MethodName := ⟨RX7, "joins", "(II)Z"⟩
abbrev cX7_isJoinedAtOnce : ByteArray := prog_1_method_53_code
def yX7_isJoinedAtOnce : MethodName := ⟨RX7, "isJoinedAtOnce", "(II)Z"⟩
abbrev cX7_leastNewRope : ByteArray := prog_1_method_54_code
def yX7_leastNewRope : MethodName := ⟨RX7, "leastNewRope", "()I"⟩
abbrev cX7_throwOdds : ByteArray := prog_1_method_55_code
def yX7_throwOdds : MethodName := ⟨RX7, "throwOdds", "(III)I"⟩
abbrev cX7_canHaveBeen : ByteArray := prog_1_method_56_code
def yX7_canHaveBeen : MethodName := ⟨RX7, "canHaveBeen", "(III)Z"⟩
abbrev cX7_isWrong : ByteArray := prog_1_method_57_code
def yX7_isWrong : MethodName := ⟨RX7, "isWrong", "(I)Z"⟩
def RX8 : String := "RopePostModel"
def TX8 : u_T := fun k => match k with
  | 0 => ("RopePostModel", "poles", "I", false)
  | 1 => ("RopePostModel", "poleX", "[I", true)
  | 2 => ("RopePostModel", "poleY", "[I", true)
  | 3 => ("RopePostModel", "bears", "[I", true)
  | 4 => ("RopePostModel", "ropes", "I", false)
  | 5 => ("RopePostModel", "ropeOne", "[I", true)
  | 6 => ("RopePostModel", "ropeTwo", "[I", true)
  | 7 => ("RopePostModel", "feet", "[I", true)
  | 8 => ("RopePostModel", "carries", "[I", true)
  | 9 => ("RopePostModel", "boys", "I", false)
  | 10 => ("RopePostModel", "toldAt", "[I", true)
  | 11 => ("RopePostModel", "pounds", "[I", true)
  | 12 => ("RopePostModel", "pace", "[I", true)
  | 13 => ("RopePostModel", "loads", "I", false)
  | 14 => ("RopePostModel", "loadFrom", "[I", true)
  | 15 => ("RopePostModel", "loadTo", "[I", true)
  | 16 => ("RopePostModel", "weight", "[I", true)
  | 17 => ("RopePostModel", "worth", "[I", true)
  | 18 => ("RopePostModel", "kind", "[I", true)
  | 19 => ("RopePostModel", "wear", "[I", true)
  | 20 => ("RopePostModel", "isWet", "[Z", true)
  | 21 => ("RopePostModel", "isCut", "[Z", true)
  | 22 => ("RopePostModel", "boyAt", "[I", true)
  | 23 => ("RopePostModel", "boyOn", "[I", true)
  | 24 => ("RopePostModel", "boyTo", "[I", true)
  | 25 => ("RopePostModel", "toGo", "[I", true)
  | 26 => ("RopePostModel", "lies", "[I", true)
  | 27 => ("RopePostModel", "carrier", "[I", true)
  | 28 => ("RopePostModel", "isDone", "[Z", true)
  | 29 => ("RopePostModel", "minute", "I", false)
  | 30 => ("RopePostModel", "had", "I", false)
  | 31 => ("RopePostModel", "rings", "I", false)
  | 32 => ("RopePostModel", "ringMinute", "[I", true)
  | 33 => ("RopePostModel", "ringRope", "[I", true)
  | 34 => ("RopePostModel", "seed", "I", false)
  | 35 => ("RopePostModel", "text", "[I", true)
  | 36 => ("RopePostModel", "texted", "I", false)
  | 37 => ("RopePostModel", "faultPlace", "I", false)
  | 38 => ("RopePostModel", "at0", "I", false)
  | 39 => ("RopePostModel", "said", "J", false)
  | 40 => ("RopePostModel", "wordEnd", "I", false)
  | 41 => ("RopePostModel", "number", "I", false)
  | 42 => ("RopePostModel", "numberAt", "I", false)
  | 43 => ("RopePostModel", "readPoles", "I", false)
  | 44 => ("RopePostModel", "readX", "[I", true)
  | 45 => ("RopePostModel", "readY", "[I", true)
  | 46 => ("RopePostModel", "readBears", "[I", true)
  | 47 => ("RopePostModel", "readRopes", "I", false)
  | 48 => ("RopePostModel", "readOne", "[I", true)
  | 49 => ("RopePostModel", "readTwo", "[I", true)
  | 50 => ("RopePostModel", "readFeet", "[I", true)
  | 51 => ("RopePostModel", "readCarries", "[I", true)
  | 52 => ("RopePostModel", "readBoys", "I", false)
  | 53 => ("RopePostModel", "readAt", "[I", true)
  | 54 => ("RopePostModel", "readPounds", "[I", true)
  | 55 => ("RopePostModel", "readPace", "[I", true)
  | 56 => ("RopePostModel", "readLoads", "I", false)
  | 57 => ("RopePostModel", "readFrom", "[I", true)
  | 58 => ("RopePostModel", "readTo", "[I", true)
  | 59 => ("RopePostModel", "readWeight", "[I", true)
  | 60 => ("RopePostModel", "readWorth", "[I", true)
  | 61 => ("RopePostModel", "readKind", "[I", true)
  | 62 => ("RopePostModel", "reach", "[I", true)
  | 63 => ("RopePostModel", "best", "[I", true)
  | 64 => ("RopePostModel", "rounds", "[I", true)
  | 65 => ("RopePostModel", "dealtTo", "[I", true)
  | 66 => ("RopePostModel", "dealing", "[I", true)
  | 67 => ("RopePostModel", "ways", "[I", true)
  | 68 => ("RopePostModel", "sightings", "I", false)
  | 69 => ("RopePostModel", "seenWho", "[I", true)
  | 70 => ("RopePostModel", "seenAt", "[I", true)
  | 71 => ("RopePostModel", "seenWhen", "[I", true)
  | 72 => ("RopePostModel", "images", "[I", true)
  | _ => ("RopePostModel", "isKept", "[Z", true)
def tyX8 : Nat → FieldType := fun k => match k with
  | 0 => .int
  | 1 => .array .int
  | 2 => .array .int
  | 3 => .array .int
  | 4 => .int
  | 5 => .array .int
  | 6 => .array .int
  | 7 => .array .int
  | 8 => .array .int
  | 9 => .int
  | 10 => .array .int
  | 11 => .array .int
  | 12 => .array .int
  | 13 => .int
  | 14 => .array .int
  | 15 => .array .int
  | 16 => .array .int
  | 17 => .array .int
  | 18 => .array .int
  | 19 => .array .int
  | 20 => .array .boolean
  | 21 => .array .boolean
  | 22 => .array .int
  | 23 => .array .int
  | 24 => .array .int
  | 25 => .array .int
  | 26 => .array .int
  | 27 => .array .int
  | 28 => .array .boolean
  | 29 => .int
  | 30 => .int
  | 31 => .int
  | 32 => .array .int
  | 33 => .array .int
  | 34 => .int
  | 35 => .array .int
  | 36 => .int
  | 37 => .int
  | 38 => .int
  | 39 => .long
  | 40 => .int
  | 41 => .int
  | 42 => .int
  | 43 => .int
  | 44 => .array .int
  | 45 => .array .int
  | 46 => .array .int
  | 47 => .int
  | 48 => .array .int
  | 49 => .array .int
  | 50 => .array .int
  | 51 => .array .int
  | 52 => .int
  | 53 => .array .int
  | 54 => .array .int
  | 55 => .array .int
  | 56 => .int
  | 57 => .array .int
  | 58 => .array .int
  | 59 => .array .int
  | 60 => .array .int
  | 61 => .array .int
  | 62 => .array .int
  | 63 => .array .int
  | 64 => .array .int
  | 65 => .array .int
  | 66 => .array .int
  | 67 => .array .int
  | 68 => .int
  | 69 => .array .int
  | 70 => .array .int
  | 71 => .array .int
  | 72 => .array .int
  | _ => .array .boolean
theorem nmX8 : ∀ a, a < 74 → ∀ b, b < 74 → a ≠ b → (TX8 a).2.1 ≠ (TX8 b).2.1 := by decide +kernel
theorem tyX8_ok : ∀ k, k < 74 → parseFieldDescriptor (TX8 k).2.2.1 = some (tyX8 k) := by decide +kernel
abbrev cX8_init : ByteArray := prog_10_method_1_code
def yX8_init : MethodName := ⟨RX8, "<init>", "()V"⟩
abbrev cX8_in : ByteArray := prog_10_method_3_code
def yX8_in : MethodName := ⟨RX8, "in", "(JJJ)Z"⟩
abbrev cX8_has : ByteArray := prog_10_method_4_code
def yX8_has : MethodName := ⟨RX8, "has", "(II)Z"⟩
abbrev cX8_bits : ByteArray := prog_10_method_5_code
def yX8_bits : MethodName := ⟨RX8, "bits", "(I)I"⟩
abbrev cX8_size : ByteArray := prog_10_method_6_code
def yX8_size : MethodName := ⟨RX8, "size", "(I)I"⟩
abbrev cX8_isPole : ByteArray := prog_10_method_7_code
def yX8_isPole : MethodName := ⟨RX8, "isPole", "(I)Z"⟩
abbrev cX8_isRope : ByteArray := prog_10_method_8_code
def yX8_isRope : MethodName := ⟨RX8, "isRope", "(I)Z"⟩
abbrev cX8_isBoy : ByteArray := prog_10_method_9_code
def yX8_isBoy : MethodName := ⟨RX8, "isBoy", "(I)Z"⟩
abbrev cX8_isLoad : ByteArray := prog_10_method_10_code
def yX8_isLoad : MethodName := ⟨RX8, "isLoad", "(I)Z"⟩
abbrev cX8_begin : ByteArray := prog_10_method_11_code
def yX8_begin : MethodName := ⟨RX8, "begin", "()V"⟩
abbrev cX8_feed : ByteArray := prog_10_method_12_code
def yX8_feed : MethodName := ⟨RX8, "feed", "(IJ)I"⟩
abbrev cX8_here : ByteArray := prog_10_method_13_code
def yX8_here : MethodName := ⟨RX8, "here", "()I"⟩
abbrev cX8_fails : ByteArray := prog_10_method_14_code
def yX8_fails : MethodName := ⟨RX8, "fails", "(II)I"⟩
abbrev cX8_readWord : ByteArray := prog_10_method_15_code
def yX8_readWord : MethodName := ⟨RX8, "readWord", "()V"⟩
abbrev cX8_code : ByteArray := prog_10_method_16_code
def yX8_code : MethodName := ⟨RX8, "code", "(III)J"⟩
abbrev cX8_longer : ByteArray := prog_10_method_17_code
def yX8_longer : MethodName := ⟨RX8, "longer", "(JII)J"⟩
abbrev cX8_takeNumber : ByteArray := prog_10_method_18_code
def yX8_takeNumber : MethodName := ⟨RX8, "takeNumber", "(II)I"⟩
abbrev cX8_into : ByteArray := prog_10_method_19_code
def yX8_into : MethodName := ⟨RX8, "into", "([IIII)I"⟩
abbrev cX8_takePole : ByteArray := prog_10_method_20_code
def yX8_takePole : MethodName := ⟨RX8, "takePole", "()I"⟩
abbrev cX8_takeTwo : ByteArray := prog_10_method_21_code
def yX8_takeTwo : MethodName := ⟨RX8, "takeTwo", "([I[II)I"⟩
abbrev cX8_takeRope : ByteArray := prog_10_method_22_code
def yX8_takeRope : MethodName := ⟨RX8, "takeRope", "()I"⟩
abbrev cX8_takeBoy : ByteArray := prog_10_method_23_code
def yX8_takeBoy : MethodName := ⟨RX8, "takeBoy", "()I"⟩
abbrev cX8_takeLoad : ByteArray := prog_10_method_24_code
def yX8_takeLoad : MethodName := ⟨RX8, "takeLoad", "()I"⟩
abbrev cX8_takeClause : ByteArray := prog_10_method_25_code
def yX8_takeClause : MethodName := ⟨RX8, "takeClause", "()I"⟩
abbrev cX8_town : ByteArray := prog_10_method_26_code
def yX8_town : MethodName := ⟨RX8, "town", "()I"⟩
abbrev cX8_fault : ByteArray := prog_10_method_27_code
def yX8_fault : MethodName := ⟨RX8, "fault", "()I"⟩
abbrev cX8_doneSet : ByteArray := prog_10_method_28_code
def yX8_doneSet : MethodName := ⟨RX8, "doneSet", "()I"⟩
abbrev cX8_wholeSet : ByteArray := prog_10_method_29_code
def yX8_wholeSet : MethodName := ⟨RX8, "wholeSet", "()I"⟩
abbrev cX8_told : ByteArray := prog_10_method_30_code
def yX8_told : MethodName := ⟨RX8, "told", "(I)I"⟩
abbrev cX8_boysAt : ByteArray := prog_10_method_31_code
def yX8_boysAt : MethodName := ⟨RX8, "boysAt", "(I)I"⟩
abbrev cX8_loadsAt : ByteArray := prog_10_method_32_code
def yX8_loadsAt : MethodName := ⟨RX8, "loadsAt", "(I)I"⟩
abbrev cX8_pole : ByteArray := prog_10_method_33_code
def yX8_pole : MethodName := ⟨RX8, "pole", "(II)I"⟩
abbrev cX8_onRope : ByteArray := prog_10_method_34_code
def yX8_onRope : MethodName := ⟨RX8, "onRope", "(I)I"⟩
abbrev cX8_rope : ByteArray := prog_10_method_35_code
def yX8_rope : MethodName := ⟨RX8, "rope", "(II)I"⟩
abbrev cX8_carriedBy : ByteArray := prog_10_method_36_code
def yX8_carriedBy : MethodName := ⟨RX8, "carriedBy", "(I)I"⟩
abbrev cX8_boy : ByteArray := prog_10_method_37_code
def yX8_boy : MethodName := ⟨RX8, "boy", "(II)I"⟩
abbrev cX8_load : ByteArray := prog_10_method_38_code
def yX8_load : MethodName := ⟨RX8, "load", "(II)I"⟩
abbrev cX8_poundsOf : ByteArray := prog_10_method_39_code
def yX8_poundsOf : MethodName := ⟨RX8, "poundsOf", "(II)I"⟩
abbrev cX8_hasKind : ByteArray := prog_10_method_40_code
def yX8_hasKind : MethodName := ⟨RX8, "hasKind", "(II)Z"⟩
abbrev cX8_mayRope : ByteArray := prog_10_method_41_code
def yX8_mayRope : MethodName := ⟨RX8, "mayRope", "(III)Z"⟩
abbrev cX8_minutesOn : ByteArray := prog_10_method_42_code
def yX8_minutesOn : MethodName := ⟨RX8, "minutesOn", "(IIIZ)I"⟩
abbrev cX8_otherEnd : ByteArray := prog_10_method_43_code
def yX8_otherEnd : MethodName := ⟨RX8, "otherEnd", "(II)I"⟩
abbrev cX8_go : ByteArray := prog_10_method_44_code
def yX8_go : MethodName := ⟨RX8, "go", "(II)I"⟩
abbrev cX8_take : ByteArray := prog_10_method_45_code
def yX8_take : MethodName := ⟨RX8, "take", "(II)I"⟩
abbrev cX8_lay : ByteArray := prog_10_method_46_code
def yX8_lay : MethodName := ⟨RX8, "lay", "(II)I"⟩
abbrev cX8_arrive : ByteArray := prog_10_method_47_code
def yX8_arrive : MethodName := ⟨RX8, "arrive", "(I)V"⟩
abbrev cX8_minuteNow : ByteArray := prog_10_method_48_code
def yX8_minuteNow : MethodName := ⟨RX8, "minuteNow", "()V"⟩
abbrev cX8_pass : ByteArray := prog_10_method_49_code
def yX8_pass : MethodName := ⟨RX8, "pass", "(I)I"⟩
abbrev cX8_cut : ByteArray := prog_10_method_50_code
def yX8_cut : MethodName := ⟨RX8, "cut", "(I)I"⟩
abbrev cX8_splice : ByteArray := prog_10_method_51_code
def yX8_splice : MethodName := ⟨RX8, "splice", "(I)I"⟩
abbrev cX8_wet : ByteArray := prog_10_method_52_code
def yX8_wet : MethodName := ⟨RX8, "wet", "(IZ)I"⟩
abbrev cX8_draw : ByteArray := prog_10_method_53_code
def yX8_draw : MethodName := ⟨RX8, "draw", "(I)I"⟩
abbrev cX8_storm : ByteArray := prog_10_method_54_code
def yX8_storm : MethodName := ⟨RX8, "storm", "(I)I"⟩
abbrev cX8_ring : ByteArray := prog_10_method_55_code
def yX8_ring : MethodName := ⟨RX8, "ring", "(II)I"⟩
abbrev cX8_findReach : ByteArray := prog_10_method_56_code
def yX8_findReach : MethodName := ⟨RX8, "findReach", "(IIZ)V"⟩
abbrev cX8_farOf : ByteArray := prog_10_method_57_code
def yX8_farOf : MethodName := ⟨RX8, "farOf", "(IIIZ)I"⟩
abbrev cX8_far : ByteArray := prog_10_method_58_code
def yX8_far : MethodName := ⟨RX8, "far", "(III)I"⟩
abbrev cX8_figure : ByteArray := prog_10_method_59_code
def yX8_figure : MethodName := ⟨RX8, "figure", "(II)I"⟩
abbrev cX8_unit : ByteArray := prog_10_method_60_code
def yX8_unit : MethodName := ⟨RX8, "unit", "(I)I"⟩
abbrev cX8_carriedIn : ByteArray := prog_10_method_61_code
def yX8_carriedIn : MethodName := ⟨RX8, "carriedIn", "(I)I"⟩
abbrev cX8_laidAt : ByteArray := prog_10_method_62_code
def yX8_laidAt : MethodName := ⟨RX8, "laidAt", "(II)I"⟩
abbrev cX8_better : ByteArray := prog_10_method_63_code
def yX8_better : MethodName := ⟨RX8, "better", "(II)Z"⟩
abbrev cX8_goOn : ByteArray := prog_10_method_64_code
def yX8_goOn : MethodName := ⟨RX8, "goOn", "(III)Z"⟩
abbrev cX8_roundOf : ByteArray := prog_10_method_65_code
def yX8_roundOf : MethodName := ⟨RX8, "roundOf", "(II)I"⟩
abbrev cX8_round : ByteArray := prog_10_method_66_code
def yX8_round : MethodName := ⟨RX8, "round", "(II)I"⟩
abbrev cX8_longestBy : ByteArray := prog_10_method_67_code
def yX8_longestBy : MethodName := ⟨RX8, "longestBy", "(I)I"⟩
abbrev cX8_findDealt : ByteArray := prog_10_method_68_code
def yX8_findDealt : MethodName := ⟨RX8, "findDealt", "()I"⟩
abbrev cX8_dealt : ByteArray := prog_10_method_69_code
def yX8_dealt : MethodName := ⟨RX8, "dealt", "(I)I"⟩
abbrev cX8_areJoined : ByteArray := prog_10_method_70_code
def yX8_areJoined : MethodName := ⟨RX8, "areJoined", "(II)Z"⟩
abbrev cX8_isSafe : ByteArray := prog_10_method_71_code
def yX8_isSafe : MethodName := ⟨RX8, "isSafe", "(II)Z"⟩
abbrev cX8_kept : ByteArray := prog_10_method_72_code
def yX8_kept : MethodName := ⟨RX8, "kept", "(I)I"⟩
abbrev cX8_apart : ByteArray := prog_10_method_73_code
def yX8_apart : MethodName := ⟨RX8, "apart", "(II)I"⟩
abbrev cX8_sumWith : ByteArray := prog_10_method_74_code
def yX8_sumWith : MethodName := ⟨RX8, "sumWith", "(II)I"⟩
abbrev cX8_shorten : ByteArray := prog_10_method_75_code
def yX8_shorten : MethodName := ⟨RX8, "shorten", "(III)V"⟩
abbrev cX8_hasWhole : ByteArray := prog_10_method_76_code
def yX8_hasWhole : MethodName := ⟨RX8, "hasWhole", "(II)Z"⟩
abbrev cX8_newRope : ByteArray := prog_10_method_77_code
def yX8_newRope : MethodName := ⟨RX8, "newRope", "(I)I"⟩
abbrev cX8_oddsOf : ByteArray := prog_10_method_78_code
def yX8_oddsOf : MethodName := ⟨RX8, "oddsOf", "(III)I"⟩
abbrev cX8_areTwo : ByteArray := prog_10_method_79_code
def yX8_areTwo : MethodName := ⟨RX8, "areTwo", "(II)Z"⟩
abbrev cX8_odds : ByteArray := prog_10_method_80_code
def yX8_odds : MethodName := ⟨RX8, "odds", "(III)I"⟩
abbrev cX8_pays : ByteArray := prog_10_method_81_code
def yX8_pays : MethodName := ⟨RX8, "pays", "(IIIIII)I"⟩
abbrev cX8_see : ByteArray := prog_10_method_82_code
def yX8_see : MethodName := ⟨RX8, "see", "(III)I"⟩
abbrev cX8_forget : ByteArray := prog_10_method_83_code
def yX8_forget : MethodName := ⟨RX8, "forget", "()I"⟩
abbrev cX8_canCome : ByteArray := prog_10_method_84_code
def yX8_canCome : MethodName := ⟨RX8, "canCome", "(IIII)Z"⟩
abbrev cX8_couldBe : ByteArray := prog_10_method_85_code
def yX8_couldBe : MethodName := ⟨RX8, "couldBe", "(III)Z"⟩
abbrev cX8_who : ByteArray := prog_10_method_86_code
def yX8_who : MethodName := ⟨RX8, "who", "(II)I"⟩
abbrev cX8_judge : ByteArray := prog_10_method_87_code
def yX8_judge : MethodName := ⟨RX8, "judge", "()I"⟩
abbrev cX8_seed : ByteArray := prog_10_method_88_code
def yX8_seed : MethodName := ⟨RX8, "seed", "(I)I"⟩
abbrev cX8_keep : ByteArray := prog_10_method_89_code
def yX8_keep : MethodName := ⟨RX8, "keep", "(I)I"⟩
abbrev cX8_goBack : ByteArray := prog_10_method_90_code
def yX8_goBack : MethodName := ⟨RX8, "goBack", "(I)I"⟩
def RJ6 : String := "java/lang/Integer"
def TJ6 : u_T := fun k => match k with
  | _ => ("", "", "", false)
def tyJ6 : Nat → FieldType := fun k => match k with
  | _ => .int
theorem nmJ6 : ∀ a, a < 0 → ∀ b, b < 0 → a ≠ b → (TJ6 a).2.1 ≠ (TJ6 b).2.1 := by decide +kernel
theorem tyJ6_ok : ∀ k, k < 0 → parseFieldDescriptor (TJ6 k).2.2.1 = some (tyJ6 k) := by decide +kernel
abbrev cJ6_lowestOneBit_0f7a4 : ByteArray := prog_11_method_46_code
def yJ6_lowestOneBit_0f7a4 : MethodName := ⟨RJ6, "lowestOneBit", "(I)I"⟩
abbrev cJ6_bitCount_0f7a4 : ByteArray := prog_11_method_49_code
def yJ6_bitCount_0f7a4 : MethodName := ⟨RJ6, "bitCount", "(I)I"⟩
def RJ9 : String := "java/lang/Math"
def TJ9 : u_T := fun k => match k with
  | _ => ("", "", "", false)
def tyJ9 : Nat → FieldType := fun k => match k with
  | _ => .int
theorem nmJ9 : ∀ a, a < 0 → ∀ b, b < 0 → a ≠ b → (TJ9 a).2.1 ≠ (TJ9 b).2.1 := by decide +kernel
theorem tyJ9_ok : ∀ k, k < 0 → parseFieldDescriptor (TJ9 k).2.2.1 = some (tyJ9 k) := by decide +kernel
abbrev cJ9_abs_0f7a4 : ByteArray := prog_12_method_59_code
def yJ9_abs_0f7a4 : MethodName := ⟨RJ9, "abs", "(I)I"⟩
abbrev cJ9_max_7cf53 : ByteArray := prog_12_method_65_code
def yJ9_max_7cf53 : MethodName := ⟨RJ9, "max", "(II)I"⟩
abbrev cJ9_min_7cf53 : ByteArray := prog_12_method_69_code
def yJ9_min_7cf53 : MethodName := ⟨RJ9, "min", "(II)I"⟩
def RJ0 : String := "java/lang/String"
def TJ0 : u_T := fun k => match k with
  | _ => ("", "", "", false)
def tyJ0 : Nat → FieldType := fun k => match k with
  | _ => .int
theorem nmJ0 : ∀ a, a < 0 → ∀ b, b < 0 → a ≠ b → (TJ0 a).2.1 ≠ (TJ0 b).2.1 := by decide +kernel
theorem tyJ0_ok : ∀ k, k < 0 → parseFieldDescriptor (TJ0 k).2.2.1 = some (tyJ0 k) := by decide +kernel
abbrev cJ0_length_8abf5 : ByteArray := prog_13_method_54_code
def yJ0_length_8abf5 : MethodName := ⟨RJ0, "length", "()I"⟩
abbrev cJ0_charAt_5068e : ByteArray := prog_13_method_56_code
def yJ0_charAt_5068e : MethodName := ⟨RJ0, "charAt", "(I)C"⟩
abbrev cJ0_coder_7d493 : ByteArray := prog_13_method_152_code
def yJ0_coder_7d493 : MethodName := ⟨RJ0, "coder", "()B"⟩
abbrev cJ0_isLatin1_aae02 : ByteArray := prog_13_method_154_code
def yJ0_isLatin1_aae02 : MethodName := ⟨RJ0, "isLatin1", "()Z"⟩
abbrev cJ0_checkIndex_df160 : ByteArray := prog_13_method_155_code
def yJ0_checkIndex_df160 : MethodName := ⟨RJ0, "checkIndex", "(II)V"⟩
def RJ1 : String := "java/lang/StringLatin1"
def TJ1 : u_T := fun k => match k with
  | _ => ("", "", "", false)
def tyJ1 : Nat → FieldType := fun k => match k with
  | _ => .int
theorem nmJ1 : ∀ a, a < 0 → ∀ b, b < 0 → a ≠ b → (TJ1 a).2.1 ≠ (TJ1 b).2.1 := by decide +kernel
theorem tyJ1_ok : ∀ k, k < 0 → parseFieldDescriptor (TJ1 k).2.2.1 = some (tyJ1 k) := by decide +kernel
abbrev cJ1_charAt_3b067 : ByteArray := prog_14_method_2_code
def yJ1_charAt_3b067 : MethodName := ⟨RJ1, "charAt", "([BI)C"⟩
def RJ2 : String := "java/lang/StringUTF16"
def TJ2 : u_T := fun k => match k with
  | _ => ("", "", "", false)
def tyJ2 : Nat → FieldType := fun k => match k with
  | _ => .int
theorem nmJ2 : ∀ a, a < 0 → ∀ b, b < 0 → a ≠ b → (TJ2 a).2.1 ≠ (TJ2 b).2.1 := by decide +kernel
theorem tyJ2_ok : ∀ k, k < 0 → parseFieldDescriptor (TJ2 k).2.2.1 = some (tyJ2 k) := by decide +kernel
abbrev cJ2_getChar_3b067 : ByteArray := prog_15_method_5_code
def yJ2_getChar_3b067 : MethodName := ⟨RJ2, "getChar", "([BI)C"⟩
abbrev cJ2_length_9d52b : ByteArray := prog_15_method_6_code
def yJ2_length_9d52b : MethodName := ⟨RJ2, "length", "([B)I"⟩
abbrev cJ2_charAt_3b067 : ByteArray := prog_15_method_83_code
def yJ2_charAt_3b067 : MethodName := ⟨RJ2, "charAt", "([BI)C"⟩
abbrev cJ2_checkIndex_2214a : ByteArray := prog_15_method_91_code
def yJ2_checkIndex_2214a : MethodName := ⟨RJ2, "checkIndex", "(I[B)V"⟩
def RJ10 : String := "java/lang/System"
def TJ10 : u_T := fun k => match k with
  | _ => ("", "", "", false)
def tyJ10 : Nat → FieldType := fun k => match k with
  | _ => .int
theorem nmJ10 : ∀ a, a < 0 → ∀ b, b < 0 → a ≠ b → (TJ10 a).2.1 ≠ (TJ10 b).2.1 := by decide +kernel
theorem tyJ10_ok : ∀ k, k < 0 → parseFieldDescriptor (TJ10 k).2.2.1 = some (tyJ10 k) := by decide +kernel
def RJ7 : String := "java/util/Arrays"
def TJ7 : u_T := fun k => match k with
  | _ => ("", "", "", false)
def tyJ7 : Nat → FieldType := fun k => match k with
  | _ => .int
theorem nmJ7 : ∀ a, a < 0 → ∀ b, b < 0 → a ≠ b → (TJ7 a).2.1 ≠ (TJ7 b).2.1 := by decide +kernel
theorem tyJ7_ok : ∀ k, k < 0 → parseFieldDescriptor (TJ7 k).2.2.1 = some (tyJ7 k) := by decide +kernel
abbrev cJ7_fill_53178 : ByteArray := prog_17_method_103_code
def yJ7_fill_53178 : MethodName := ⟨RJ7, "fill", "([II)V"⟩
def RJ3 : String := "jdk/internal/util/Preconditions"
def TJ3 : u_T := fun k => match k with
  | _ => ("", "", "", false)
def tyJ3 : Nat → FieldType := fun k => match k with
  | _ => .int
theorem nmJ3 : ∀ a, a < 0 → ∀ b, b < 0 → a ≠ b → (TJ3 a).2.1 ≠ (TJ3 b).2.1 := by decide +kernel
theorem tyJ3_ok : ∀ k, k < 0 → parseFieldDescriptor (TJ3 k).2.2.1 = some (tyJ3 k) := by decide +kernel
abbrev cJ3_checkIndex_8e157 : ByteArray := prog_18_method_11_code
def yJ3_checkIndex_8e157 : MethodName := ⟨RJ3, "checkIndex", "(IILjava/util/function/BiFunction;)I"⟩
def RL : String := "RopePostLaw"
abbrev cL_law : ByteArray := code
def yL_law : MethodName := ⟨RL, "law", "([I)Z"⟩
abbrev vwCl : List vw_C := [(RX0, TX0, 4), (RX1, TX1, 3), (RX2, TX2, 20), (RX3, TX3, 7), (RX4, TX4, 4), (RX5, TX5, 15), (RX6, TX6, 3), (RX7, TX7, 10), (RX8, TX8, 74)]
