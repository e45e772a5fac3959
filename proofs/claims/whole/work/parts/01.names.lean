-- ===== PART A: goes FIRST, ahead of the names: the tables' words, and 'selects' of the private methods out of them =====
/-- a private method of a class that the tables say can be made, by its rows of tables_1 -/
def lw_okq (q : MethodName × Nat) : Prop := (q.1.cls ≠ "java/lang/invoke/MethodHandle" ∧ q.1.cls ≠ "java/lang/invoke/VarHandle") ∧ Cond.instantiable q.1.cls q.2 ∈ tables_1 ∧ Cond.privateMethod q.1 ∈ tables_1 ∧ Cond.instanceMethod q.1 ∈ tables_1
theorem lw_p0 : lw_okq (⟨"NotWhereYesterday$RuleReader", "readLine", "()Z"⟩, 4) := ⟨⟨by decide +kernel, by decide +kernel⟩, List.mem_of_getElem? (i := 152) (by decide +kernel), List.mem_of_getElem? (i := 391) (by decide +kernel), List.mem_of_getElem? (i := 392) (by decide +kernel)⟩
theorem lw_p1 : lw_okq (⟨"NotWhereYesterday$RuleReader", "take", "(I)Z"⟩, 4) := ⟨⟨by decide +kernel, by decide +kernel⟩, List.mem_of_getElem? (i := 152) (by decide +kernel), List.mem_of_getElem? (i := 395) (by decide +kernel), List.mem_of_getElem? (i := 396) (by decide +kernel)⟩
theorem lw_p2 : lw_okq (⟨"NotWhereYesterday$RuleReader", "readSpan", "(I)Z"⟩, 4) := ⟨⟨by decide +kernel, by decide +kernel⟩, List.mem_of_getElem? (i := 152) (by decide +kernel), List.mem_of_getElem? (i := 399) (by decide +kernel), List.mem_of_getElem? (i := 400) (by decide +kernel)⟩
theorem lw_p3 : lw_okq (⟨"NotWhereYesterday$RuleReader", "digit", "()I"⟩, 4) := ⟨⟨by decide +kernel, by decide +kernel⟩, List.mem_of_getElem? (i := 152) (by decide +kernel), List.mem_of_getElem? (i := 403) (by decide +kernel), List.mem_of_getElem? (i := 404) (by decide +kernel)⟩
theorem lw_p4 : lw_okq (⟨"NotWhereYesterday$RuleReader", "readFree", "()Z"⟩, 4) := ⟨⟨by decide +kernel, by decide +kernel⟩, List.mem_of_getElem? (i := 152) (by decide +kernel), List.mem_of_getElem? (i := 407) (by decide +kernel), List.mem_of_getElem? (i := 408) (by decide +kernel)⟩
theorem lw_p5 : lw_okq (⟨"NotWhereYesterday$RuleReader", "readBar", "()Z"⟩, 4) := ⟨⟨by decide +kernel, by decide +kernel⟩, List.mem_of_getElem? (i := 152) (by decide +kernel), List.mem_of_getElem? (i := 415) (by decide +kernel), List.mem_of_getElem? (i := 416) (by decide +kernel)⟩
theorem lw_p6 : lw_okq (⟨"NotWhereYesterday$RuleReader", "readAway", "()Z"⟩, 4) := ⟨⟨by decide +kernel, by decide +kernel⟩, List.mem_of_getElem? (i := 152) (by decide +kernel), List.mem_of_getElem? (i := 423) (by decide +kernel), List.mem_of_getElem? (i := 424) (by decide +kernel)⟩
theorem lw_p7 : lw_okq (⟨"NotWhereYesterday$RuleReader", "oneOrTwoDigits", "()I"⟩, 4) := ⟨⟨by decide +kernel, by decide +kernel⟩, List.mem_of_getElem? (i := 152) (by decide +kernel), List.mem_of_getElem? (i := 427) (by decide +kernel), List.mem_of_getElem? (i := 428) (by decide +kernel)⟩
theorem lw_p8 : lw_okq (⟨"NotWhereYesterday", "entry", "(II)I"⟩, 13) := ⟨⟨by decide +kernel, by decide +kernel⟩, List.mem_of_getElem? (i := 21) (by decide +kernel), List.mem_of_getElem? (i := 527) (by decide +kernel), List.mem_of_getElem? (i := 528) (by decide +kernel)⟩
theorem lw_p9 : lw_okq (⟨"NotWhereYesterday", "filledPosts", "()I"⟩, 13) := ⟨⟨by decide +kernel, by decide +kernel⟩, List.mem_of_getElem? (i := 21) (by decide +kernel), List.mem_of_getElem? (i := 531) (by decide +kernel), List.mem_of_getElem? (i := 532) (by decide +kernel)⟩
theorem lw_p10 : lw_okq (⟨"NotWhereYesterday", "clearRow", "()V"⟩, 13) := ⟨⟨by decide +kernel, by decide +kernel⟩, List.mem_of_getElem? (i := 21) (by decide +kernel), List.mem_of_getElem? (i := 539) (by decide +kernel), List.mem_of_getElem? (i := 540) (by decide +kernel)⟩
theorem lw_p11 : lw_okq (⟨"NotWhereYesterday", "tell", "(I)V"⟩, 13) := ⟨⟨by decide +kernel, by decide +kernel⟩, List.mem_of_getElem? (i := 21) (by decide +kernel), List.mem_of_getElem? (i := 551) (by decide +kernel), List.mem_of_getElem? (i := 552) (by decide +kernel)⟩
theorem lw_p12 : lw_okq (⟨"NotWhereYesterday$State", "work", "(LNotWhereYesterday$House;II)V"⟩, 9) := ⟨⟨by decide +kernel, by decide +kernel⟩, List.mem_of_getElem? (i := 102) (by decide +kernel), List.mem_of_getElem? (i := 588) (by decide +kernel), List.mem_of_getElem? (i := 589) (by decide +kernel)⟩
theorem lw_p13 : lw_okq (⟨"NotWhereYesterday$State", "learn", "(LNotWhereYesterday$House;II)V"⟩, 9) := ⟨⟨by decide +kernel, by decide +kernel⟩, List.mem_of_getElem? (i := 102) (by decide +kernel), List.mem_of_getElem? (i := 592) (by decide +kernel), List.mem_of_getElem? (i := 593) (by decide +kernel)⟩
theorem lw_p14 : lw_okq (⟨"NotWhereYesterday", "wrongOn", "(II)I"⟩, 13) := ⟨⟨by decide +kernel, by decide +kernel⟩, List.mem_of_getElem? (i := 21) (by decide +kernel), List.mem_of_getElem? (i := 604) (by decide +kernel), List.mem_of_getElem? (i := 605) (by decide +kernel)⟩
theorem lw_p15 : lw_okq (⟨"NotWhereYesterday$Chooser", "scoreOf", "(IIII)I"⟩, 12) := ⟨⟨by decide +kernel, by decide +kernel⟩, List.mem_of_getElem? (i := 190) (by decide +kernel), List.mem_of_getElem? (i := 626) (by decide +kernel), List.mem_of_getElem? (i := 627) (by decide +kernel)⟩
def lw_privs_1 : List (MethodName × Nat) := [(⟨"NotWhereYesterday$RuleReader", "readLine", "()Z"⟩, 4), (⟨"NotWhereYesterday$RuleReader", "take", "(I)Z"⟩, 4), (⟨"NotWhereYesterday$RuleReader", "readSpan", "(I)Z"⟩, 4), (⟨"NotWhereYesterday$RuleReader", "digit", "()I"⟩, 4), (⟨"NotWhereYesterday$RuleReader", "readFree", "()Z"⟩, 4), (⟨"NotWhereYesterday$RuleReader", "readBar", "()Z"⟩, 4), (⟨"NotWhereYesterday$RuleReader", "readAway", "()Z"⟩, 4), (⟨"NotWhereYesterday$RuleReader", "oneOrTwoDigits", "()I"⟩, 4), (⟨"NotWhereYesterday", "entry", "(II)I"⟩, 13), (⟨"NotWhereYesterday", "filledPosts", "()I"⟩, 13), (⟨"NotWhereYesterday", "clearRow", "()V"⟩, 13), (⟨"NotWhereYesterday", "tell", "(I)V"⟩, 13), (⟨"NotWhereYesterday$State", "work", "(LNotWhereYesterday$House;II)V"⟩, 9), (⟨"NotWhereYesterday$State", "learn", "(LNotWhereYesterday$House;II)V"⟩, 9), (⟨"NotWhereYesterday", "wrongOn", "(II)I"⟩, 13), (⟨"NotWhereYesterday$Chooser", "scoreOf", "(IIII)I"⟩, 12)]
theorem lw_r1 : ∀ q ∈ lw_privs_1, lw_okq q := List.forall_mem_cons.mpr ⟨lw_p0, List.forall_mem_cons.mpr ⟨lw_p1, List.forall_mem_cons.mpr ⟨lw_p2, List.forall_mem_cons.mpr ⟨lw_p3, List.forall_mem_cons.mpr ⟨lw_p4, List.forall_mem_cons.mpr ⟨lw_p5, List.forall_mem_cons.mpr ⟨lw_p6, List.forall_mem_cons.mpr ⟨lw_p7, List.forall_mem_cons.mpr ⟨lw_p8, List.forall_mem_cons.mpr ⟨lw_p9, List.forall_mem_cons.mpr ⟨lw_p10, List.forall_mem_cons.mpr ⟨lw_p11, List.forall_mem_cons.mpr ⟨lw_p12, List.forall_mem_cons.mpr ⟨lw_p13, List.forall_mem_cons.mpr ⟨lw_p14, List.forall_mem_cons.mpr ⟨lw_p15, fun _ h => absurd h List.not_mem_nil⟩⟩⟩⟩⟩⟩⟩⟩⟩⟩⟩⟩⟩⟩⟩⟩
theorem lw_p16 : lw_okq (⟨"NotWhereYesterday$Chooser", "raiseCeiling", "()V"⟩, 12) := ⟨⟨by decide +kernel, by decide +kernel⟩, List.mem_of_getElem? (i := 190) (by decide +kernel), List.mem_of_getElem? (i := 643) (by decide +kernel), List.mem_of_getElem? (i := 644) (by decide +kernel)⟩
theorem lw_p17 : lw_okq (⟨"NotWhereYesterday$Chooser", "value", "(III)I"⟩, 12) := ⟨⟨by decide +kernel, by decide +kernel⟩, List.mem_of_getElem? (i := 190) (by decide +kernel), List.mem_of_getElem? (i := 649) (by decide +kernel), List.mem_of_getElem? (i := 650) (by decide +kernel)⟩
theorem lw_p18 : lw_okq (⟨"NotWhereYesterday$Chooser", "gain", "(III)I"⟩, 12) := ⟨⟨by decide +kernel, by decide +kernel⟩, List.mem_of_getElem? (i := 190) (by decide +kernel), List.mem_of_getElem? (i := 660) (by decide +kernel), List.mem_of_getElem? (i := 661) (by decide +kernel)⟩
theorem lw_p19 : lw_okq (⟨"NotWhereYesterday$Chooser", "leastOne", "(IIII)I"⟩, 12) := ⟨⟨by decide +kernel, by decide +kernel⟩, List.mem_of_getElem? (i := 190) (by decide +kernel), List.mem_of_getElem? (i := 664) (by decide +kernel), List.mem_of_getElem? (i := 665) (by decide +kernel)⟩
theorem lw_p20 : lw_okq (⟨"NotWhereYesterday", "tellFilling", "([I)V"⟩, 13) := ⟨⟨by decide +kernel, by decide +kernel⟩, List.mem_of_getElem? (i := 21) (by decide +kernel), List.mem_of_getElem? (i := 668) (by decide +kernel), List.mem_of_getElem? (i := 669) (by decide +kernel)⟩
theorem lw_p21 : lw_okq (⟨"NotWhereYesterday", "fillDraft", "()I"⟩, 13) := ⟨⟨by decide +kernel, by decide +kernel⟩, List.mem_of_getElem? (i := 21) (by decide +kernel), List.mem_of_getElem? (i := 676) (by decide +kernel), List.mem_of_getElem? (i := 677) (by decide +kernel)⟩
theorem lw_p22 : lw_okq (⟨"NotWhereYesterday", "bestWorth", "(I)I"⟩, 13) := ⟨⟨by decide +kernel, by decide +kernel⟩, List.mem_of_getElem? (i := 21) (by decide +kernel), List.mem_of_getElem? (i := 693) (by decide +kernel), List.mem_of_getElem? (i := 694) (by decide +kernel)⟩
theorem lw_p23 : lw_okq (⟨"NotWhereYesterday", "candidatesOf", "(I)I"⟩, 13) := ⟨⟨by decide +kernel, by decide +kernel⟩, List.mem_of_getElem? (i := 21) (by decide +kernel), List.mem_of_getElem? (i := 711) (by decide +kernel), List.mem_of_getElem? (i := 712) (by decide +kernel)⟩
theorem lw_p24 : lw_okq (⟨"NotWhereYesterday", "worthWith", "(II)I"⟩, 13) := ⟨⟨by decide +kernel, by decide +kernel⟩, List.mem_of_getElem? (i := 21) (by decide +kernel), List.mem_of_getElem? (i := 754) (by decide +kernel), List.mem_of_getElem? (i := 755) (by decide +kernel)⟩
theorem lw_p25 : lw_okq (⟨"NotWhereYesterday", "countBits", "()I"⟩, 13) := ⟨⟨by decide +kernel, by decide +kernel⟩, List.mem_of_getElem? (i := 21) (by decide +kernel), List.mem_of_getElem? (i := 762) (by decide +kernel), List.mem_of_getElem? (i := 763) (by decide +kernel)⟩
theorem lw_p26 : lw_okq (⟨"NotWhereYesterday", "addMeetings", "(I)V"⟩, 13) := ⟨⟨by decide +kernel, by decide +kernel⟩, List.mem_of_getElem? (i := 21) (by decide +kernel), List.mem_of_getElem? (i := 766) (by decide +kernel), List.mem_of_getElem? (i := 767) (by decide +kernel)⟩
theorem lw_p27 : lw_okq (⟨"NotWhereYesterday$Rounds", "addFrom", "(II)V"⟩, 20) := ⟨⟨by decide +kernel, by decide +kernel⟩, List.mem_of_getElem? (i := 235) (by decide +kernel), List.mem_of_getElem? (i := 783) (by decide +kernel), List.mem_of_getElem? (i := 784) (by decide +kernel)⟩
theorem lw_p28 : lw_okq (⟨"NotWhereYesterday$Rounds", "placesOf", "(I)I"⟩, 20) := ⟨⟨by decide +kernel, by decide +kernel⟩, List.mem_of_getElem? (i := 235) (by decide +kernel), List.mem_of_getElem? (i := 788) (by decide +kernel), List.mem_of_getElem? (i := 789) (by decide +kernel)⟩
theorem lw_p29 : lw_okq (⟨"NotWhereYesterday$Rounds", "pairsOf", "(I)I"⟩, 20) := ⟨⟨by decide +kernel, by decide +kernel⟩, List.mem_of_getElem? (i := 235) (by decide +kernel), List.mem_of_getElem? (i := 799) (by decide +kernel), List.mem_of_getElem? (i := 800) (by decide +kernel)⟩
theorem lw_p30 : lw_okq (⟨"NotWhereYesterday$Rounds", "barredBehind", "(I)I"⟩, 20) := ⟨⟨by decide +kernel, by decide +kernel⟩, List.mem_of_getElem? (i := 235) (by decide +kernel), List.mem_of_getElem? (i := 808) (by decide +kernel), List.mem_of_getElem? (i := 809) (by decide +kernel)⟩
theorem lw_p31 : lw_okq (⟨"NotWhereYesterday$Rounds", "placesBarredTo", "(II)I"⟩, 20) := ⟨⟨by decide +kernel, by decide +kernel⟩, List.mem_of_getElem? (i := 235) (by decide +kernel), List.mem_of_getElem? (i := 812) (by decide +kernel), List.mem_of_getElem? (i := 813) (by decide +kernel)⟩
def lw_privs_2 : List (MethodName × Nat) := [(⟨"NotWhereYesterday$Chooser", "raiseCeiling", "()V"⟩, 12), (⟨"NotWhereYesterday$Chooser", "value", "(III)I"⟩, 12), (⟨"NotWhereYesterday$Chooser", "gain", "(III)I"⟩, 12), (⟨"NotWhereYesterday$Chooser", "leastOne", "(IIII)I"⟩, 12), (⟨"NotWhereYesterday", "tellFilling", "([I)V"⟩, 13), (⟨"NotWhereYesterday", "fillDraft", "()I"⟩, 13), (⟨"NotWhereYesterday", "bestWorth", "(I)I"⟩, 13), (⟨"NotWhereYesterday", "candidatesOf", "(I)I"⟩, 13), (⟨"NotWhereYesterday", "worthWith", "(II)I"⟩, 13), (⟨"NotWhereYesterday", "countBits", "()I"⟩, 13), (⟨"NotWhereYesterday", "addMeetings", "(I)V"⟩, 13), (⟨"NotWhereYesterday$Rounds", "addFrom", "(II)V"⟩, 20), (⟨"NotWhereYesterday$Rounds", "placesOf", "(I)I"⟩, 20), (⟨"NotWhereYesterday$Rounds", "pairsOf", "(I)I"⟩, 20), (⟨"NotWhereYesterday$Rounds", "barredBehind", "(I)I"⟩, 20), (⟨"NotWhereYesterday$Rounds", "placesBarredTo", "(II)I"⟩, 20)]
theorem lw_r2 : ∀ q ∈ lw_privs_2, lw_okq q := List.forall_mem_cons.mpr ⟨lw_p16, List.forall_mem_cons.mpr ⟨lw_p17, List.forall_mem_cons.mpr ⟨lw_p18, List.forall_mem_cons.mpr ⟨lw_p19, List.forall_mem_cons.mpr ⟨lw_p20, List.forall_mem_cons.mpr ⟨lw_p21, List.forall_mem_cons.mpr ⟨lw_p22, List.forall_mem_cons.mpr ⟨lw_p23, List.forall_mem_cons.mpr ⟨lw_p24, List.forall_mem_cons.mpr ⟨lw_p25, List.forall_mem_cons.mpr ⟨lw_p26, List.forall_mem_cons.mpr ⟨lw_p27, List.forall_mem_cons.mpr ⟨lw_p28, List.forall_mem_cons.mpr ⟨lw_p29, List.forall_mem_cons.mpr ⟨lw_p30, List.forall_mem_cons.mpr ⟨lw_p31, fun _ h => absurd h List.not_mem_nil⟩⟩⟩⟩⟩⟩⟩⟩⟩⟩⟩⟩⟩⟩⟩⟩
theorem lw_p32 : lw_okq (⟨"NotWhereYesterday$Rounds", "stepsTo", "(II)I"⟩, 20) := ⟨⟨by decide +kernel, by decide +kernel⟩, List.mem_of_getElem? (i := 235) (by decide +kernel), List.mem_of_getElem? (i := 875) (by decide +kernel), List.mem_of_getElem? (i := 876) (by decide +kernel)⟩
theorem lw_p33 : lw_okq (⟨"NotWhereYesterday$Rounds", "advance", "()V"⟩, 20) := ⟨⟨by decide +kernel, by decide +kernel⟩, List.mem_of_getElem? (i := 235) (by decide +kernel), List.mem_of_getElem? (i := 891) (by decide +kernel), List.mem_of_getElem? (i := 892) (by decide +kernel)⟩
theorem lw_p34 : lw_okq (⟨"NotWhereYesterday", "tellNode", "(I)V"⟩, 13) := ⟨⟨by decide +kernel, by decide +kernel⟩, List.mem_of_getElem? (i := 21) (by decide +kernel), List.mem_of_getElem? (i := 903) (by decide +kernel), List.mem_of_getElem? (i := 904) (by decide +kernel)⟩
theorem lw_p35 : lw_okq (⟨"NotWhereYesterday$Rounds", "keepBehindYesterday", "()V"⟩, 20) := ⟨⟨by decide +kernel, by decide +kernel⟩, List.mem_of_getElem? (i := 235) (by decide +kernel), List.mem_of_getElem? (i := 916) (by decide +kernel), List.mem_of_getElem? (i := 917) (by decide +kernel)⟩
theorem lw_p36 : lw_okq (⟨"NotWhereYesterday$Rounds", "lessonBits", "(I)I"⟩, 20) := ⟨⟨by decide +kernel, by decide +kernel⟩, List.mem_of_getElem? (i := 235) (by decide +kernel), List.mem_of_getElem? (i := 931) (by decide +kernel), List.mem_of_getElem? (i := 932) (by decide +kernel)⟩
theorem lw_p37 : lw_okq (⟨"NotWhereYesterday$Rounds", "addsUp", "(III)Z"⟩, 20) := ⟨⟨by decide +kernel, by decide +kernel⟩, List.mem_of_getElem? (i := 235) (by decide +kernel), List.mem_of_getElem? (i := 935) (by decide +kernel), List.mem_of_getElem? (i := 936) (by decide +kernel)⟩
theorem lw_p38 : lw_okq (⟨"NotWhereYesterday", "tellLesson", "(I)V"⟩, 13) := ⟨⟨by decide +kernel, by decide +kernel⟩, List.mem_of_getElem? (i := 21) (by decide +kernel), List.mem_of_getElem? (i := 939) (by decide +kernel), List.mem_of_getElem? (i := 940) (by decide +kernel)⟩
theorem lw_p39 : lw_okq (⟨"NotWhereYesterday$Rounds", "findFit", "(II)V"⟩, 20) := ⟨⟨by decide +kernel, by decide +kernel⟩, List.mem_of_getElem? (i := 235) (by decide +kernel), List.mem_of_getElem? (i := 951) (by decide +kernel), List.mem_of_getElem? (i := 952) (by decide +kernel)⟩
theorem lw_p40 : lw_okq (⟨"NotWhereYesterday$Rounds", "hopeBehind", "(II)I"⟩, 20) := ⟨⟨by decide +kernel, by decide +kernel⟩, List.mem_of_getElem? (i := 235) (by decide +kernel), List.mem_of_getElem? (i := 957) (by decide +kernel), List.mem_of_getElem? (i := 958) (by decide +kernel)⟩
theorem lw_p41 : lw_okq (⟨"NotWhereYesterday$Rounds", "partsBehind", "(II)I"⟩, 20) := ⟨⟨by decide +kernel, by decide +kernel⟩, List.mem_of_getElem? (i := 235) (by decide +kernel), List.mem_of_getElem? (i := 961) (by decide +kernel), List.mem_of_getElem? (i := 962) (by decide +kernel)⟩
theorem lw_p42 : lw_okq (⟨"NotWhereYesterday$Rounds", "seekChain", "(III)V"⟩, 20) := ⟨⟨by decide +kernel, by decide +kernel⟩, List.mem_of_getElem? (i := 235) (by decide +kernel), List.mem_of_getElem? (i := 965) (by decide +kernel), List.mem_of_getElem? (i := 966) (by decide +kernel)⟩
theorem lw_p43 : lw_okq (⟨"NotWhereYesterday$Rounds", "followsChain", "(II)Z"⟩, 20) := ⟨⟨by decide +kernel, by decide +kernel⟩, List.mem_of_getElem? (i := 235) (by decide +kernel), List.mem_of_getElem? (i := 969) (by decide +kernel), List.mem_of_getElem? (i := 970) (by decide +kernel)⟩
theorem lw_p44 : lw_okq (⟨"NotWhereYesterday$Rounds", "mayFollowByTwo", "(II)Z"⟩, 20) := ⟨⟨by decide +kernel, by decide +kernel⟩, List.mem_of_getElem? (i := 235) (by decide +kernel), List.mem_of_getElem? (i := 973) (by decide +kernel), List.mem_of_getElem? (i := 974) (by decide +kernel)⟩
theorem lw_p45 : lw_okq (⟨"NotWhereYesterday$Chooser", "tryFrom", "(IIII)V"⟩, 12) := ⟨⟨by decide +kernel, by decide +kernel⟩, List.mem_of_getElem? (i := 190) (by decide +kernel), List.mem_of_getElem? (i := 985) (by decide +kernel), List.mem_of_getElem? (i := 986) (by decide +kernel)⟩
theorem lw_p46 : lw_okq (⟨"NotWhereYesterday$Chooser", "wasOnNoDay", "()Z"⟩, 12) := ⟨⟨by decide +kernel, by decide +kernel⟩, List.mem_of_getElem? (i := 190) (by decide +kernel), List.mem_of_getElem? (i := 989) (by decide +kernel), List.mem_of_getElem? (i := 990) (by decide +kernel)⟩
theorem lw_p47 : lw_okq (⟨"NotWhereYesterday", "draftByKind", "(I)V"⟩, 13) := ⟨⟨by decide +kernel, by decide +kernel⟩, List.mem_of_getElem? (i := 21) (by decide +kernel), List.mem_of_getElem? (i := 998) (by decide +kernel), List.mem_of_getElem? (i := 999) (by decide +kernel)⟩
def lw_privs_3 : List (MethodName × Nat) := [(⟨"NotWhereYesterday$Rounds", "stepsTo", "(II)I"⟩, 20), (⟨"NotWhereYesterday$Rounds", "advance", "()V"⟩, 20), (⟨"NotWhereYesterday", "tellNode", "(I)V"⟩, 13), (⟨"NotWhereYesterday$Rounds", "keepBehindYesterday", "()V"⟩, 20), (⟨"NotWhereYesterday$Rounds", "lessonBits", "(I)I"⟩, 20), (⟨"NotWhereYesterday$Rounds", "addsUp", "(III)Z"⟩, 20), (⟨"NotWhereYesterday", "tellLesson", "(I)V"⟩, 13), (⟨"NotWhereYesterday$Rounds", "findFit", "(II)V"⟩, 20), (⟨"NotWhereYesterday$Rounds", "hopeBehind", "(II)I"⟩, 20), (⟨"NotWhereYesterday$Rounds", "partsBehind", "(II)I"⟩, 20), (⟨"NotWhereYesterday$Rounds", "seekChain", "(III)V"⟩, 20), (⟨"NotWhereYesterday$Rounds", "followsChain", "(II)Z"⟩, 20), (⟨"NotWhereYesterday$Rounds", "mayFollowByTwo", "(II)Z"⟩, 20), (⟨"NotWhereYesterday$Chooser", "tryFrom", "(IIII)V"⟩, 12), (⟨"NotWhereYesterday$Chooser", "wasOnNoDay", "()Z"⟩, 12), (⟨"NotWhereYesterday", "draftByKind", "(I)V"⟩, 13)]
theorem lw_r3 : ∀ q ∈ lw_privs_3, lw_okq q := List.forall_mem_cons.mpr ⟨lw_p32, List.forall_mem_cons.mpr ⟨lw_p33, List.forall_mem_cons.mpr ⟨lw_p34, List.forall_mem_cons.mpr ⟨lw_p35, List.forall_mem_cons.mpr ⟨lw_p36, List.forall_mem_cons.mpr ⟨lw_p37, List.forall_mem_cons.mpr ⟨lw_p38, List.forall_mem_cons.mpr ⟨lw_p39, List.forall_mem_cons.mpr ⟨lw_p40, List.forall_mem_cons.mpr ⟨lw_p41, List.forall_mem_cons.mpr ⟨lw_p42, List.forall_mem_cons.mpr ⟨lw_p43, List.forall_mem_cons.mpr ⟨lw_p44, List.forall_mem_cons.mpr ⟨lw_p45, List.forall_mem_cons.mpr ⟨lw_p46, List.forall_mem_cons.mpr ⟨lw_p47, fun _ h => absurd h List.not_mem_nil⟩⟩⟩⟩⟩⟩⟩⟩⟩⟩⟩⟩⟩⟩⟩⟩
theorem lw_p48 : lw_okq (⟨"NotWhereYesterday", "oneByKind", "(II)I"⟩, 13) := ⟨⟨by decide +kernel, by decide +kernel⟩, List.mem_of_getElem? (i := 21) (by decide +kernel), List.mem_of_getElem? (i := 1002) (by decide +kernel), List.mem_of_getElem? (i := 1003) (by decide +kernel)⟩
theorem lw_p49 : lw_okq (⟨"NotWhereYesterday", "chairsOf", "(I)I"⟩, 13) := ⟨⟨by decide +kernel, by decide +kernel⟩, List.mem_of_getElem? (i := 21) (by decide +kernel), List.mem_of_getElem? (i := 1033) (by decide +kernel), List.mem_of_getElem? (i := 1034) (by decide +kernel)⟩
theorem lw_p50 : lw_okq (⟨"NotWhereYesterday", "comesAgain", "(I)Z"⟩, 13) := ⟨⟨by decide +kernel, by decide +kernel⟩, List.mem_of_getElem? (i := 21) (by decide +kernel), List.mem_of_getElem? (i := 1041) (by decide +kernel), List.mem_of_getElem? (i := 1042) (by decide +kernel)⟩
theorem lw_p51 : lw_okq (⟨"java/lang/Throwable", "fillInStackTrace", "(I)Ljava/lang/Throwable;"⟩, 6) := ⟨⟨by decide +kernel, by decide +kernel⟩, List.mem_of_getElem? (i := 1110) (by decide +kernel), List.mem_of_getElem? (i := 1108) (by decide +kernel), List.mem_of_getElem? (i := 1109) (by decide +kernel)⟩
theorem lw_p52 : lw_okq (⟨"NotWhereYesterdayModel", "readsLine", "()Z"⟩, 66) := ⟨⟨by decide +kernel, by decide +kernel⟩, List.mem_of_getElem? (i := 1170) (by decide +kernel), List.mem_of_getElem? (i := 1168) (by decide +kernel), List.mem_of_getElem? (i := 1169) (by decide +kernel)⟩
theorem lw_p53 : lw_okq (⟨"NotWhereYesterdayModel", "takes", "(I)Z"⟩, 66) := ⟨⟨by decide +kernel, by decide +kernel⟩, List.mem_of_getElem? (i := 1170) (by decide +kernel), List.mem_of_getElem? (i := 1173) (by decide +kernel), List.mem_of_getElem? (i := 1174) (by decide +kernel)⟩
theorem lw_p54 : lw_okq (⟨"NotWhereYesterdayModel", "readsAway", "()Z"⟩, 66) := ⟨⟨by decide +kernel, by decide +kernel⟩, List.mem_of_getElem? (i := 1170) (by decide +kernel), List.mem_of_getElem? (i := 1180) (by decide +kernel), List.mem_of_getElem? (i := 1181) (by decide +kernel)⟩
theorem lw_p55 : lw_okq (⟨"NotWhereYesterdayModel", "digit", "()I"⟩, 66) := ⟨⟨by decide +kernel, by decide +kernel⟩, List.mem_of_getElem? (i := 1170) (by decide +kernel), List.mem_of_getElem? (i := 1184) (by decide +kernel), List.mem_of_getElem? (i := 1185) (by decide +kernel)⟩
theorem lw_p56 : lw_okq (⟨"NotWhereYesterdayModel", "isDigit", "()Z"⟩, 66) := ⟨⟨by decide +kernel, by decide +kernel⟩, List.mem_of_getElem? (i := 1170) (by decide +kernel), List.mem_of_getElem? (i := 1188) (by decide +kernel), List.mem_of_getElem? (i := 1189) (by decide +kernel)⟩
theorem lw_p57 : lw_okq (⟨"NotWhereYesterdayModel", "dayFrom", "(I)I"⟩, 66) := ⟨⟨by decide +kernel, by decide +kernel⟩, List.mem_of_getElem? (i := 1170) (by decide +kernel), List.mem_of_getElem? (i := 1194) (by decide +kernel), List.mem_of_getElem? (i := 1195) (by decide +kernel)⟩
theorem lw_p58 : lw_okq (⟨"NotWhereYesterdayModel", "isPerson", "(I)Z"⟩, 66) := ⟨⟨by decide +kernel, by decide +kernel⟩, List.mem_of_getElem? (i := 1170) (by decide +kernel), List.mem_of_getElem? (i := 1202) (by decide +kernel), List.mem_of_getElem? (i := 1203) (by decide +kernel)⟩
theorem lw_p59 : lw_okq (⟨"NotWhereYesterdayModel", "isPost", "(I)Z"⟩, 66) := ⟨⟨by decide +kernel, by decide +kernel⟩, List.mem_of_getElem? (i := 1170) (by decide +kernel), List.mem_of_getElem? (i := 1210) (by decide +kernel), List.mem_of_getElem? (i := 1211) (by decide +kernel)⟩
theorem lw_p60 : lw_okq (⟨"NotWhereYesterdayModel", "why", "(III)I"⟩, 66) := ⟨⟨by decide +kernel, by decide +kernel⟩, List.mem_of_getElem? (i := 1170) (by decide +kernel), List.mem_of_getElem? (i := 1214) (by decide +kernel), List.mem_of_getElem? (i := 1215) (by decide +kernel)⟩
theorem lw_p61 : lw_okq (⟨"NotWhereYesterdayModel", "isAway", "(II)Z"⟩, 66) := ⟨⟨by decide +kernel, by decide +kernel⟩, List.mem_of_getElem? (i := 1170) (by decide +kernel), List.mem_of_getElem? (i := 1218) (by decide +kernel), List.mem_of_getElem? (i := 1219) (by decide +kernel)⟩
theorem lw_p62 : lw_okq (⟨"NotWhereYesterdayModel", "isFree", "(II)Z"⟩, 66) := ⟨⟨by decide +kernel, by decide +kernel⟩, List.mem_of_getElem? (i := 1170) (by decide +kernel), List.mem_of_getElem? (i := 1222) (by decide +kernel), List.mem_of_getElem? (i := 1223) (by decide +kernel)⟩
theorem lw_p63 : lw_okq (⟨"NotWhereYesterdayModel", "wasThere", "(III)Z"⟩, 66) := ⟨⟨by decide +kernel, by decide +kernel⟩, List.mem_of_getElem? (i := 1170) (by decide +kernel), List.mem_of_getElem? (i := 1229) (by decide +kernel), List.mem_of_getElem? (i := 1230) (by decide +kernel)⟩
def lw_privs_4 : List (MethodName × Nat) := [(⟨"NotWhereYesterday", "oneByKind", "(II)I"⟩, 13), (⟨"NotWhereYesterday", "chairsOf", "(I)I"⟩, 13), (⟨"NotWhereYesterday", "comesAgain", "(I)Z"⟩, 13), (⟨"java/lang/Throwable", "fillInStackTrace", "(I)Ljava/lang/Throwable;"⟩, 6), (⟨"NotWhereYesterdayModel", "readsLine", "()Z"⟩, 66), (⟨"NotWhereYesterdayModel", "takes", "(I)Z"⟩, 66), (⟨"NotWhereYesterdayModel", "readsAway", "()Z"⟩, 66), (⟨"NotWhereYesterdayModel", "digit", "()I"⟩, 66), (⟨"NotWhereYesterdayModel", "isDigit", "()Z"⟩, 66), (⟨"NotWhereYesterdayModel", "dayFrom", "(I)I"⟩, 66), (⟨"NotWhereYesterdayModel", "isPerson", "(I)Z"⟩, 66), (⟨"NotWhereYesterdayModel", "isPost", "(I)Z"⟩, 66), (⟨"NotWhereYesterdayModel", "why", "(III)I"⟩, 66), (⟨"NotWhereYesterdayModel", "isAway", "(II)Z"⟩, 66), (⟨"NotWhereYesterdayModel", "isFree", "(II)Z"⟩, 66), (⟨"NotWhereYesterdayModel", "wasThere", "(III)Z"⟩, 66)]
theorem lw_r4 : ∀ q ∈ lw_privs_4, lw_okq q := List.forall_mem_cons.mpr ⟨lw_p48, List.forall_mem_cons.mpr ⟨lw_p49, List.forall_mem_cons.mpr ⟨lw_p50, List.forall_mem_cons.mpr ⟨lw_p51, List.forall_mem_cons.mpr ⟨lw_p52, List.forall_mem_cons.mpr ⟨lw_p53, List.forall_mem_cons.mpr ⟨lw_p54, List.forall_mem_cons.mpr ⟨lw_p55, List.forall_mem_cons.mpr ⟨lw_p56, List.forall_mem_cons.mpr ⟨lw_p57, List.forall_mem_cons.mpr ⟨lw_p58, List.forall_mem_cons.mpr ⟨lw_p59, List.forall_mem_cons.mpr ⟨lw_p60, List.forall_mem_cons.mpr ⟨lw_p61, List.forall_mem_cons.mpr ⟨lw_p62, List.forall_mem_cons.mpr ⟨lw_p63, fun _ h => absurd h List.not_mem_nil⟩⟩⟩⟩⟩⟩⟩⟩⟩⟩⟩⟩⟩⟩⟩⟩
theorem lw_p64 : lw_okq (⟨"NotWhereYesterdayModel", "on", "(II)I"⟩, 66) := ⟨⟨by decide +kernel, by decide +kernel⟩, List.mem_of_getElem? (i := 1170) (by decide +kernel), List.mem_of_getElem? (i := 1233) (by decide +kernel), List.mem_of_getElem? (i := 1234) (by decide +kernel)⟩
theorem lw_p65 : lw_okq (⟨"NotWhereYesterdayModel", "comesWrong", "(III)Z"⟩, 66) := ⟨⟨by decide +kernel, by decide +kernel⟩, List.mem_of_getElem? (i := 1170) (by decide +kernel), List.mem_of_getElem? (i := 1237) (by decide +kernel), List.mem_of_getElem? (i := 1238) (by decide +kernel)⟩
theorem lw_p66 : lw_okq (⟨"NotWhereYesterdayModel", "mayBeside", "(III)Z"⟩, 66) := ⟨⟨by decide +kernel, by decide +kernel⟩, List.mem_of_getElem? (i := 1170) (by decide +kernel), List.mem_of_getElem? (i := 1245) (by decide +kernel), List.mem_of_getElem? (i := 1246) (by decide +kernel)⟩
theorem lw_p67 : lw_okq (⟨"NotWhereYesterdayModel", "wereBeside", "(III)Z"⟩, 66) := ⟨⟨by decide +kernel, by decide +kernel⟩, List.mem_of_getElem? (i := 1170) (by decide +kernel), List.mem_of_getElem? (i := 1249) (by decide +kernel), List.mem_of_getElem? (i := 1250) (by decide +kernel)⟩
theorem lw_p68 : lw_okq (⟨"NotWhereYesterdayModel", "postOf", "(I)I"⟩, 66) := ⟨⟨by decide +kernel, by decide +kernel⟩, List.mem_of_getElem? (i := 1170) (by decide +kernel), List.mem_of_getElem? (i := 1257) (by decide +kernel), List.mem_of_getElem? (i := 1258) (by decide +kernel)⟩
theorem lw_p69 : lw_okq (⟨"NotWhereYesterdayModel", "empties", "()V"⟩, 66) := ⟨⟨by decide +kernel, by decide +kernel⟩, List.mem_of_getElem? (i := 1170) (by decide +kernel), List.mem_of_getElem? (i := 1266) (by decide +kernel), List.mem_of_getElem? (i := 1267) (by decide +kernel)⟩
theorem lw_p70 : lw_okq (⟨"NotWhereYesterdayModel", "filled", "()I"⟩, 66) := ⟨⟨by decide +kernel, by decide +kernel⟩, List.mem_of_getElem? (i := 1170) (by decide +kernel), List.mem_of_getElem? (i := 1270) (by decide +kernel), List.mem_of_getElem? (i := 1271) (by decide +kernel)⟩
theorem lw_p71 : lw_okq (⟨"NotWhereYesterdayModel", "worthOf", "(I)I"⟩, 66) := ⟨⟨by decide +kernel, by decide +kernel⟩, List.mem_of_getElem? (i := 1170) (by decide +kernel), List.mem_of_getElem? (i := 1278) (by decide +kernel), List.mem_of_getElem? (i := 1279) (by decide +kernel)⟩
theorem lw_p72 : lw_okq (⟨"NotWhereYesterdayModel", "worthAt", "(II)I"⟩, 66) := ⟨⟨by decide +kernel, by decide +kernel⟩, List.mem_of_getElem? (i := 1170) (by decide +kernel), List.mem_of_getElem? (i := 1282) (by decide +kernel), List.mem_of_getElem? (i := 1283) (by decide +kernel)⟩
theorem lw_p73 : lw_okq (⟨"NotWhereYesterdayModel", "enters", "(I)V"⟩, 66) := ⟨⟨by decide +kernel, by decide +kernel⟩, List.mem_of_getElem? (i := 1170) (by decide +kernel), List.mem_of_getElem? (i := 1286) (by decide +kernel), List.mem_of_getElem? (i := 1287) (by decide +kernel)⟩
theorem lw_p74 : lw_okq (⟨"NotWhereYesterdayModel", "whyAt", "(III)I"⟩, 66) := ⟨⟨by decide +kernel, by decide +kernel⟩, List.mem_of_getElem? (i := 1170) (by decide +kernel), List.mem_of_getElem? (i := 1290) (by decide +kernel), List.mem_of_getElem? (i := 1291) (by decide +kernel)⟩
theorem lw_p75 : lw_okq (⟨"NotWhereYesterdayModel", "canDo", "(II)Z"⟩, 66) := ⟨⟨by decide +kernel, by decide +kernel⟩, List.mem_of_getElem? (i := 1170) (by decide +kernel), List.mem_of_getElem? (i := 1294) (by decide +kernel), List.mem_of_getElem? (i := 1295) (by decide +kernel)⟩
theorem lw_p76 : lw_okq (⟨"NotWhereYesterdayModel", "isGood", "(II)Z"⟩, 66) := ⟨⟨by decide +kernel, by decide +kernel⟩, List.mem_of_getElem? (i := 1170) (by decide +kernel), List.mem_of_getElem? (i := 1298) (by decide +kernel), List.mem_of_getElem? (i := 1299) (by decide +kernel)⟩
theorem lw_p77 : lw_okq (⟨"NotWhereYesterdayModel", "passes", "()V"⟩, 66) := ⟨⟨by decide +kernel, by decide +kernel⟩, List.mem_of_getElem? (i := 1170) (by decide +kernel), List.mem_of_getElem? (i := 1306) (by decide +kernel), List.mem_of_getElem? (i := 1307) (by decide +kernel)⟩
theorem lw_p78 : lw_okq (⟨"NotWhereYesterdayModel", "worksOn", "(II)V"⟩, 66) := ⟨⟨by decide +kernel, by decide +kernel⟩, List.mem_of_getElem? (i := 1170) (by decide +kernel), List.mem_of_getElem? (i := 1310) (by decide +kernel), List.mem_of_getElem? (i := 1311) (by decide +kernel)⟩
theorem lw_p79 : lw_okq (⟨"NotWhereYesterdayModel", "bests", "(Z)I"⟩, 66) := ⟨⟨by decide +kernel, by decide +kernel⟩, List.mem_of_getElem? (i := 1170) (by decide +kernel), List.mem_of_getElem? (i := 1334) (by decide +kernel), List.mem_of_getElem? (i := 1335) (by decide +kernel)⟩
def lw_privs_5 : List (MethodName × Nat) := [(⟨"NotWhereYesterdayModel", "on", "(II)I"⟩, 66), (⟨"NotWhereYesterdayModel", "comesWrong", "(III)Z"⟩, 66), (⟨"NotWhereYesterdayModel", "mayBeside", "(III)Z"⟩, 66), (⟨"NotWhereYesterdayModel", "wereBeside", "(III)Z"⟩, 66), (⟨"NotWhereYesterdayModel", "postOf", "(I)I"⟩, 66), (⟨"NotWhereYesterdayModel", "empties", "()V"⟩, 66), (⟨"NotWhereYesterdayModel", "filled", "()I"⟩, 66), (⟨"NotWhereYesterdayModel", "worthOf", "(I)I"⟩, 66), (⟨"NotWhereYesterdayModel", "worthAt", "(II)I"⟩, 66), (⟨"NotWhereYesterdayModel", "enters", "(I)V"⟩, 66), (⟨"NotWhereYesterdayModel", "whyAt", "(III)I"⟩, 66), (⟨"NotWhereYesterdayModel", "canDo", "(II)Z"⟩, 66), (⟨"NotWhereYesterdayModel", "isGood", "(II)Z"⟩, 66), (⟨"NotWhereYesterdayModel", "passes", "()V"⟩, 66), (⟨"NotWhereYesterdayModel", "worksOn", "(II)V"⟩, 66), (⟨"NotWhereYesterdayModel", "bests", "(Z)I"⟩, 66)]
theorem lw_r5 : ∀ q ∈ lw_privs_5, lw_okq q := List.forall_mem_cons.mpr ⟨lw_p64, List.forall_mem_cons.mpr ⟨lw_p65, List.forall_mem_cons.mpr ⟨lw_p66, List.forall_mem_cons.mpr ⟨lw_p67, List.forall_mem_cons.mpr ⟨lw_p68, List.forall_mem_cons.mpr ⟨lw_p69, List.forall_mem_cons.mpr ⟨lw_p70, List.forall_mem_cons.mpr ⟨lw_p71, List.forall_mem_cons.mpr ⟨lw_p72, List.forall_mem_cons.mpr ⟨lw_p73, List.forall_mem_cons.mpr ⟨lw_p74, List.forall_mem_cons.mpr ⟨lw_p75, List.forall_mem_cons.mpr ⟨lw_p76, List.forall_mem_cons.mpr ⟨lw_p77, List.forall_mem_cons.mpr ⟨lw_p78, List.forall_mem_cons.mpr ⟨lw_p79, fun _ h => absurd h List.not_mem_nil⟩⟩⟩⟩⟩⟩⟩⟩⟩⟩⟩⟩⟩⟩⟩⟩
theorem lw_p80 : lw_okq (⟨"NotWhereYesterdayModel", "asksToday", "()V"⟩, 66) := ⟨⟨by decide +kernel, by decide +kernel⟩, List.mem_of_getElem? (i := 1170) (by decide +kernel), List.mem_of_getElem? (i := 1338) (by decide +kernel), List.mem_of_getElem? (i := 1339) (by decide +kernel)⟩
theorem lw_p81 : lw_okq (⟨"NotWhereYesterdayModel", "indexOf", "(III)I"⟩, 66) := ⟨⟨by decide +kernel, by decide +kernel⟩, List.mem_of_getElem? (i := 1170) (by decide +kernel), List.mem_of_getElem? (i := 1342) (by decide +kernel), List.mem_of_getElem? (i := 1343) (by decide +kernel)⟩
theorem lw_p82 : lw_okq (⟨"NotWhereYesterdayModel", "layers", "(I)V"⟩, 66) := ⟨⟨by decide +kernel, by decide +kernel⟩, List.mem_of_getElem? (i := 1170) (by decide +kernel), List.mem_of_getElem? (i := 1346) (by decide +kernel), List.mem_of_getElem? (i := 1347) (by decide +kernel)⟩
theorem lw_p83 : lw_okq (⟨"NotWhereYesterdayModel", "gain", "(II)I"⟩, 66) := ⟨⟨by decide +kernel, by decide +kernel⟩, List.mem_of_getElem? (i := 1170) (by decide +kernel), List.mem_of_getElem? (i := 1350) (by decide +kernel), List.mem_of_getElem? (i := 1351) (by decide +kernel)⟩
theorem lw_p84 : lw_okq (⟨"NotWhereYesterdayModel", "entersBest", "()V"⟩, 66) := ⟨⟨by decide +kernel, by decide +kernel⟩, List.mem_of_getElem? (i := 1170) (by decide +kernel), List.mem_of_getElem? (i := 1355) (by decide +kernel), List.mem_of_getElem? (i := 1356) (by decide +kernel)⟩
theorem lw_p85 : lw_okq (⟨"NotWhereYesterdayModel", "fills", "()I"⟩, 66) := ⟨⟨by decide +kernel, by decide +kernel⟩, List.mem_of_getElem? (i := 1170) (by decide +kernel), List.mem_of_getElem? (i := 1363) (by decide +kernel), List.mem_of_getElem? (i := 1364) (by decide +kernel)⟩
theorem lw_p86 : lw_okq (⟨"NotWhereYesterdayModel", "moreIf", "(I)I"⟩, 66) := ⟨⟨by decide +kernel, by decide +kernel⟩, List.mem_of_getElem? (i := 1170) (by decide +kernel), List.mem_of_getElem? (i := 1375) (by decide +kernel), List.mem_of_getElem? (i := 1376) (by decide +kernel)⟩
theorem lw_p87 : lw_okq (⟨"NotWhereYesterdayModel", "pricedLayer", "(I)V"⟩, 66) := ⟨⟨by decide +kernel, by decide +kernel⟩, List.mem_of_getElem? (i := 1170) (by decide +kernel), List.mem_of_getElem? (i := 1397) (by decide +kernel), List.mem_of_getElem? (i := 1398) (by decide +kernel)⟩
theorem lw_p88 : lw_okq (⟨"NotWhereYesterdayModel", "priced", "(IIII)I"⟩, 66) := ⟨⟨by decide +kernel, by decide +kernel⟩, List.mem_of_getElem? (i := 1170) (by decide +kernel), List.mem_of_getElem? (i := 1401) (by decide +kernel), List.mem_of_getElem? (i := 1402) (by decide +kernel)⟩
theorem lw_p89 : lw_okq (⟨"NotWhereYesterdayModel", "breaksAt", "(III)I"⟩, 66) := ⟨⟨by decide +kernel, by decide +kernel⟩, List.mem_of_getElem? (i := 1170) (by decide +kernel), List.mem_of_getElem? (i := 1405) (by decide +kernel), List.mem_of_getElem? (i := 1406) (by decide +kernel)⟩
theorem lw_p90 : lw_okq (⟨"NotWhereYesterdayModel", "isAble", "(II)Z"⟩, 66) := ⟨⟨by decide +kernel, by decide +kernel⟩, List.mem_of_getElem? (i := 1170) (by decide +kernel), List.mem_of_getElem? (i := 1409) (by decide +kernel), List.mem_of_getElem? (i := 1410) (by decide +kernel)⟩
theorem lw_p91 : lw_okq (⟨"NotWhereYesterdayModel", "setsLaw", "(II)V"⟩, 66) := ⟨⟨by decide +kernel, by decide +kernel⟩, List.mem_of_getElem? (i := 1170) (by decide +kernel), List.mem_of_getElem? (i := 1425) (by decide +kernel), List.mem_of_getElem? (i := 1426) (by decide +kernel)⟩
theorem lw_p92 : lw_okq (⟨"NotWhereYesterdayModel", "mayAll", "(I)Z"⟩, 66) := ⟨⟨by decide +kernel, by decide +kernel⟩, List.mem_of_getElem? (i := 1170) (by decide +kernel), List.mem_of_getElem? (i := 1429) (by decide +kernel), List.mem_of_getElem? (i := 1430) (by decide +kernel)⟩
theorem lw_p93 : lw_okq (⟨"NotWhereYesterdayModel", "isFew", "()Z"⟩, 66) := ⟨⟨by decide +kernel, by decide +kernel⟩, List.mem_of_getElem? (i := 1170) (by decide +kernel), List.mem_of_getElem? (i := 1445) (by decide +kernel), List.mem_of_getElem? (i := 1446) (by decide +kernel)⟩
theorem lw_p94 : lw_okq (⟨"NotWhereYesterdayModel", "goesForEver", "()I"⟩, 66) := ⟨⟨by decide +kernel, by decide +kernel⟩, List.mem_of_getElem? (i := 1170) (by decide +kernel), List.mem_of_getElem? (i := 1449) (by decide +kernel), List.mem_of_getElem? (i := 1450) (by decide +kernel)⟩
theorem lw_p95 : lw_okq (⟨"NotWhereYesterdayModel", "leadsAll", "()V"⟩, 66) := ⟨⟨by decide +kernel, by decide +kernel⟩, List.mem_of_getElem? (i := 1170) (by decide +kernel), List.mem_of_getElem? (i := 1453) (by decide +kernel), List.mem_of_getElem? (i := 1454) (by decide +kernel)⟩
def lw_privs_6 : List (MethodName × Nat) := [(⟨"NotWhereYesterdayModel", "asksToday", "()V"⟩, 66), (⟨"NotWhereYesterdayModel", "indexOf", "(III)I"⟩, 66), (⟨"NotWhereYesterdayModel", "layers", "(I)V"⟩, 66), (⟨"NotWhereYesterdayModel", "gain", "(II)I"⟩, 66), (⟨"NotWhereYesterdayModel", "entersBest", "()V"⟩, 66), (⟨"NotWhereYesterdayModel", "fills", "()I"⟩, 66), (⟨"NotWhereYesterdayModel", "moreIf", "(I)I"⟩, 66), (⟨"NotWhereYesterdayModel", "pricedLayer", "(I)V"⟩, 66), (⟨"NotWhereYesterdayModel", "priced", "(IIII)I"⟩, 66), (⟨"NotWhereYesterdayModel", "breaksAt", "(III)I"⟩, 66), (⟨"NotWhereYesterdayModel", "isAble", "(II)Z"⟩, 66), (⟨"NotWhereYesterdayModel", "setsLaw", "(II)V"⟩, 66), (⟨"NotWhereYesterdayModel", "mayAll", "(I)Z"⟩, 66), (⟨"NotWhereYesterdayModel", "isFew", "()Z"⟩, 66), (⟨"NotWhereYesterdayModel", "goesForEver", "()I"⟩, 66), (⟨"NotWhereYesterdayModel", "leadsAll", "()V"⟩, 66)]
theorem lw_r6 : ∀ q ∈ lw_privs_6, lw_okq q := List.forall_mem_cons.mpr ⟨lw_p80, List.forall_mem_cons.mpr ⟨lw_p81, List.forall_mem_cons.mpr ⟨lw_p82, List.forall_mem_cons.mpr ⟨lw_p83, List.forall_mem_cons.mpr ⟨lw_p84, List.forall_mem_cons.mpr ⟨lw_p85, List.forall_mem_cons.mpr ⟨lw_p86, List.forall_mem_cons.mpr ⟨lw_p87, List.forall_mem_cons.mpr ⟨lw_p88, List.forall_mem_cons.mpr ⟨lw_p89, List.forall_mem_cons.mpr ⟨lw_p90, List.forall_mem_cons.mpr ⟨lw_p91, List.forall_mem_cons.mpr ⟨lw_p92, List.forall_mem_cons.mpr ⟨lw_p93, List.forall_mem_cons.mpr ⟨lw_p94, List.forall_mem_cons.mpr ⟨lw_p95, fun _ h => absurd h List.not_mem_nil⟩⟩⟩⟩⟩⟩⟩⟩⟩⟩⟩⟩⟩⟩⟩⟩
theorem lw_p96 : lw_okq (⟨"NotWhereYesterdayModel", "listsAll", "()V"⟩, 66) := ⟨⟨by decide +kernel, by decide +kernel⟩, List.mem_of_getElem? (i := 1170) (by decide +kernel), List.mem_of_getElem? (i := 1457) (by decide +kernel), List.mem_of_getElem? (i := 1458) (by decide +kernel)⟩
theorem lw_p97 : lw_okq (⟨"NotWhereYesterdayModel", "lists", "(II)V"⟩, 66) := ⟨⟨by decide +kernel, by decide +kernel⟩, List.mem_of_getElem? (i := 1170) (by decide +kernel), List.mem_of_getElem? (i := 1461) (by decide +kernel), List.mem_of_getElem? (i := 1462) (by decide +kernel)⟩
theorem lw_p98 : lw_okq (⟨"NotWhereYesterdayModel", "follows", "([III)Z"⟩, 66) := ⟨⟨by decide +kernel, by decide +kernel⟩, List.mem_of_getElem? (i := 1170) (by decide +kernel), List.mem_of_getElem? (i := 1465) (by decide +kernel), List.mem_of_getElem? (i := 1466) (by decide +kernel)⟩
theorem lw_p99 : lw_okq (⟨"NotWhereYesterdayModel", "nextRound", "(I)I"⟩, 66) := ⟨⟨by decide +kernel, by decide +kernel⟩, List.mem_of_getElem? (i := 1170) (by decide +kernel), List.mem_of_getElem? (i := 1476) (by decide +kernel), List.mem_of_getElem? (i := 1477) (by decide +kernel)⟩
theorem lw_p100 : lw_okq (⟨"NotWhereYesterdayModel", "reaches", "(I)V"⟩, 66) := ⟨⟨by decide +kernel, by decide +kernel⟩, List.mem_of_getElem? (i := 1170) (by decide +kernel), List.mem_of_getElem? (i := 1480) (by decide +kernel), List.mem_of_getElem? (i := 1481) (by decide +kernel)⟩
theorem lw_p101 : lw_okq (⟨"NotWhereYesterdayModel", "entersList", "(I)V"⟩, 66) := ⟨⟨by decide +kernel, by decide +kernel⟩, List.mem_of_getElem? (i := 1170) (by decide +kernel), List.mem_of_getElem? (i := 1484) (by decide +kernel), List.mem_of_getElem? (i := 1485) (by decide +kernel)⟩
theorem lw_p102 : lw_okq (⟨"NotWhereYesterdayModel", "isLesson", "(I)Z"⟩, 66) := ⟨⟨by decide +kernel, by decide +kernel⟩, List.mem_of_getElem? (i := 1170) (by decide +kernel), List.mem_of_getElem? (i := 1496) (by decide +kernel), List.mem_of_getElem? (i := 1497) (by decide +kernel)⟩
theorem lw_p103 : lw_okq (⟨"NotWhereYesterdayModel", "lessonDoes", "(I)Z"⟩, 66) := ⟨⟨by decide +kernel, by decide +kernel⟩, List.mem_of_getElem? (i := 1170) (by decide +kernel), List.mem_of_getElem? (i := 1500) (by decide +kernel), List.mem_of_getElem? (i := 1501) (by decide +kernel)⟩
theorem lw_p104 : lw_okq (⟨"NotWhereYesterdayModel", "entersLesson", "(I)V"⟩, 66) := ⟨⟨by decide +kernel, by decide +kernel⟩, List.mem_of_getElem? (i := 1170) (by decide +kernel), List.mem_of_getElem? (i := 1504) (by decide +kernel), List.mem_of_getElem? (i := 1505) (by decide +kernel)⟩
theorem lw_p105 : lw_okq (⟨"NotWhereYesterdayModel", "brings", "(III)V"⟩, 66) := ⟨⟨by decide +kernel, by decide +kernel⟩, List.mem_of_getElem? (i := 1170) (by decide +kernel), List.mem_of_getElem? (i := 1512) (by decide +kernel), List.mem_of_getElem? (i := 1513) (by decide +kernel)⟩
theorem lw_p106 : lw_okq (⟨"NotWhereYesterdayModel", "freshens", "(IIII)V"⟩, 66) := ⟨⟨by decide +kernel, by decide +kernel⟩, List.mem_of_getElem? (i := 1170) (by decide +kernel), List.mem_of_getElem? (i := 1520) (by decide +kernel), List.mem_of_getElem? (i := 1521) (by decide +kernel)⟩
theorem lw_p107 : lw_okq (⟨"NotWhereYesterdayModel", "wasEver", "()Z"⟩, 66) := ⟨⟨by decide +kernel, by decide +kernel⟩, List.mem_of_getElem? (i := 1170) (by decide +kernel), List.mem_of_getElem? (i := 1524) (by decide +kernel), List.mem_of_getElem? (i := 1525) (by decide +kernel)⟩
theorem lw_p108 : lw_okq (⟨"NotWhereYesterdayModel", "byKind", "(II)I"⟩, 66) := ⟨⟨by decide +kernel, by decide +kernel⟩, List.mem_of_getElem? (i := 1170) (by decide +kernel), List.mem_of_getElem? (i := 1533) (by decide +kernel), List.mem_of_getElem? (i := 1534) (by decide +kernel)⟩
theorem lw_p109 : lw_okq (⟨"NotWhereYesterdayModel", "meetsNobody", "()V"⟩, 66) := ⟨⟨by decide +kernel, by decide +kernel⟩, List.mem_of_getElem? (i := 1170) (by decide +kernel), List.mem_of_getElem? (i := 1544) (by decide +kernel), List.mem_of_getElem? (i := 1545) (by decide +kernel)⟩
theorem lw_p110 : lw_okq (⟨"NotWhereYesterdayModel", "meets", "(I)V"⟩, 66) := ⟨⟨by decide +kernel, by decide +kernel⟩, List.mem_of_getElem? (i := 1170) (by decide +kernel), List.mem_of_getElem? (i := 1548) (by decide +kernel), List.mem_of_getElem? (i := 1549) (by decide +kernel)⟩
theorem lw_p111 : lw_okq (⟨"NotWhereYesterdayModel", "haveAllMet", "(I)Z"⟩, 66) := ⟨⟨by decide +kernel, by decide +kernel⟩, List.mem_of_getElem? (i := 1170) (by decide +kernel), List.mem_of_getElem? (i := 1556) (by decide +kernel), List.mem_of_getElem? (i := 1557) (by decide +kernel)⟩
def lw_privs_7 : List (MethodName × Nat) := [(⟨"NotWhereYesterdayModel", "listsAll", "()V"⟩, 66), (⟨"NotWhereYesterdayModel", "lists", "(II)V"⟩, 66), (⟨"NotWhereYesterdayModel", "follows", "([III)Z"⟩, 66), (⟨"NotWhereYesterdayModel", "nextRound", "(I)I"⟩, 66), (⟨"NotWhereYesterdayModel", "reaches", "(I)V"⟩, 66), (⟨"NotWhereYesterdayModel", "entersList", "(I)V"⟩, 66), (⟨"NotWhereYesterdayModel", "isLesson", "(I)Z"⟩, 66), (⟨"NotWhereYesterdayModel", "lessonDoes", "(I)Z"⟩, 66), (⟨"NotWhereYesterdayModel", "entersLesson", "(I)V"⟩, 66), (⟨"NotWhereYesterdayModel", "brings", "(III)V"⟩, 66), (⟨"NotWhereYesterdayModel", "freshens", "(IIII)V"⟩, 66), (⟨"NotWhereYesterdayModel", "wasEver", "()Z"⟩, 66), (⟨"NotWhereYesterdayModel", "byKind", "(II)I"⟩, 66), (⟨"NotWhereYesterdayModel", "meetsNobody", "()V"⟩, 66), (⟨"NotWhereYesterdayModel", "meets", "(I)V"⟩, 66), (⟨"NotWhereYesterdayModel", "haveAllMet", "(I)Z"⟩, 66)]
theorem lw_r7 : ∀ q ∈ lw_privs_7, lw_okq q := List.forall_mem_cons.mpr ⟨lw_p96, List.forall_mem_cons.mpr ⟨lw_p97, List.forall_mem_cons.mpr ⟨lw_p98, List.forall_mem_cons.mpr ⟨lw_p99, List.forall_mem_cons.mpr ⟨lw_p100, List.forall_mem_cons.mpr ⟨lw_p101, List.forall_mem_cons.mpr ⟨lw_p102, List.forall_mem_cons.mpr ⟨lw_p103, List.forall_mem_cons.mpr ⟨lw_p104, List.forall_mem_cons.mpr ⟨lw_p105, List.forall_mem_cons.mpr ⟨lw_p106, List.forall_mem_cons.mpr ⟨lw_p107, List.forall_mem_cons.mpr ⟨lw_p108, List.forall_mem_cons.mpr ⟨lw_p109, List.forall_mem_cons.mpr ⟨lw_p110, List.forall_mem_cons.mpr ⟨lw_p111, fun _ h => absurd h List.not_mem_nil⟩⟩⟩⟩⟩⟩⟩⟩⟩⟩⟩⟩⟩⟩⟩⟩
theorem lw_p112 : lw_okq (⟨"NotWhereYesterdayModel", "wereAt", "(I)I"⟩, 66) := ⟨⟨by decide +kernel, by decide +kernel⟩, List.mem_of_getElem? (i := 1170) (by decide +kernel), List.mem_of_getElem? (i := 1577) (by decide +kernel), List.mem_of_getElem? (i := 1578) (by decide +kernel)⟩
theorem lw_p113 : lw_okq (⟨"NotWhereYesterdayModel", "areSame", "(II)Z"⟩, 66) := ⟨⟨by decide +kernel, by decide +kernel⟩, List.mem_of_getElem? (i := 1170) (by decide +kernel), List.mem_of_getElem? (i := 1585) (by decide +kernel), List.mem_of_getElem? (i := 1586) (by decide +kernel)⟩
theorem lw_p114 : lw_okq (⟨"NotWhereYesterdayModel", "lays", "([III)V"⟩, 66) := ⟨⟨by decide +kernel, by decide +kernel⟩, List.mem_of_getElem? (i := 1170) (by decide +kernel), List.mem_of_getElem? (i := 1593) (by decide +kernel), List.mem_of_getElem? (i := 1594) (by decide +kernel)⟩
theorem lw_p115 : lw_okq (⟨"NotWhereYesterdayModel", "takesBack", "([III)V"⟩, 66) := ⟨⟨by decide +kernel, by decide +kernel⟩, List.mem_of_getElem? (i := 1170) (by decide +kernel), List.mem_of_getElem? (i := 1601) (by decide +kernel), List.mem_of_getElem? (i := 1602) (by decide +kernel)⟩
def lw_privs_8 : List (MethodName × Nat) := [(⟨"NotWhereYesterdayModel", "wereAt", "(I)I"⟩, 66), (⟨"NotWhereYesterdayModel", "areSame", "(II)Z"⟩, 66), (⟨"NotWhereYesterdayModel", "lays", "([III)V"⟩, 66), (⟨"NotWhereYesterdayModel", "takesBack", "([III)V"⟩, 66)]
theorem lw_r8 : ∀ q ∈ lw_privs_8, lw_okq q := List.forall_mem_cons.mpr ⟨lw_p112, List.forall_mem_cons.mpr ⟨lw_p113, List.forall_mem_cons.mpr ⟨lw_p114, List.forall_mem_cons.mpr ⟨lw_p115, fun _ h => absurd h List.not_mem_nil⟩⟩⟩⟩
def lw_privs : List (MethodName × Nat) := lw_privs_1 ++ (lw_privs_2 ++ (lw_privs_3 ++ (lw_privs_4 ++ (lw_privs_5 ++ (lw_privs_6 ++ (lw_privs_7 ++ (lw_privs_8)))))))
def lw_tbl : List Cond := k2_sels lw_privs ++ tables_1
theorem lw_privs_ok : ∀ q ∈ lw_privs, lw_okq q := by
  show ∀ q ∈ lw_privs_1 ++ (lw_privs_2 ++ (lw_privs_3 ++ (lw_privs_4 ++ (lw_privs_5 ++ (lw_privs_6 ++ (lw_privs_7 ++ (lw_privs_8))))))), lw_okq q
  exact List.forall_mem_append.mpr ⟨lw_r1, List.forall_mem_append.mpr ⟨lw_r2, List.forall_mem_append.mpr ⟨lw_r3, List.forall_mem_append.mpr ⟨lw_r4, List.forall_mem_append.mpr ⟨lw_r5, List.forall_mem_append.mpr ⟨lw_r6, List.forall_mem_append.mpr ⟨lw_r7, lw_r8⟩⟩⟩⟩⟩⟩⟩
-- ===== end of PART A; then your names; then what follows =====
/-! THE CLAIM OUT OF ONE WALK OF THE LAW'S BODY. Your part is whole_start (and what it stands on); all else here is the same for every law, but numbers. -/
def R_law : String := "NotWhereYesterdayLaw"
def lw_P (b : Addr) (xs : List Int32) (args : Array Value) (s : State) : Prop := args = #[.ref b] ∧ s.IntsAt b xs ∧ xs.length ≤ 2560 ∧ (Jvm.Cond.and given_1 narrow_1).before args s = true
def lw_Q (_ : Array Value) (s : State) (o : Outcome) (t : State) : Prop := o = .returned (some (.int 1)) ∧ Framed s o t [] 601024 7293034
def lw_Z (below : List Frame) (a : Array Value) (s : State) : State → Prop := fun t => ∃ o, t.status = .running ∧ Ended t below o ∧ lw_Q a s o t
/-- the law's own end, with 1 on the stack, nothing written that was there before, its room as the claim has it -/
theorem lw_ret {p : Program} {l : Launch} {e : Env} {s : State} {m : MethodId} {below : List Frame} {meth : Method} {c : Code} {b : Nat} (hx : p.tables.exec = Jvm.exec) (hb : c.code = code) (hr : meth.sig.returnType = ret) (hlocks : meth.locks = false) {pc : Nat} {H : Heap} {ls : Array Slot} (hdg : decode code pc = .ok (.ireturn, 1)) : W p l e room_1 s m #[Value.ref b] below meth c H [] 601024 7293034 (lw_Z below #[Value.ref b] s) (F0 m pc ls [.int 1]) := by
  intro T hT X
  obtain ⟨fs, hret, hrun, hended, hW, hframe⟩ := X.leave (v := some (.int 1)) (hlocks := hlocks) (fun h => by rw [hr] at h; cases h)
  have hmeth' : T.vm.method? m = some meth := X.method'
  refine ⟨T.setFrames fs, ?_, .returned (some (.int 1)), hrun, hended, rfl, ⟨_, rfl⟩, hW, hframe⟩
  jvm_step X.here [X.here.top, hx, hb, hdg, hmeth', hr, ret, narrow_b1]
  (try refine ⟨rfl, ?_⟩); (try refine ⟨rfl, ?_⟩)
  first | (intro acts; rw [hret _ acts rfl rfl rfl]) | rw [hret _ _ rfl rfl rfl]
  exact Steps.refl _
/-- what holds at the law's entry: the machine, the code, the tables' words (any of lw_tbl by 'hts w (by decide +kernel)'), the script of L ints xs at the cell b, what the Statement gives of the start (any of its parts by flat_of_before) -/
def lw_At (p : Program) (s : State) (m : MethodId) (meth : Method) (c : Code) (b L : Nat) (xs : Nat → Int32) : Prop :=
  p.tables.exec = Jvm.exec ∧ c.code = code ∧ meth.sig.returnType = ret ∧ c.maxLocals = 7 ∧ s.vm.findClass R_law = some m.cls ∧ (∀ w ∈ lw_tbl, w.before #[Value.ref b] s = true) ∧ va_X b L xs s s.heap ∧ b < s.heap.size ∧ meth.locks = false ∧ (Jvm.Cond.and given_1 narrow_1).before #[Value.ref b] s = true
-- the names, as the printed list has them
def RX0 : String := "NotWhereYesterday$Chooser"
def TX0 : u_T := fun k => match k with
  | 0 => ("NotWhereYesterday$Chooser", "filling", "[I", true)
  | 1 => ("NotWhereYesterday$Chooser", "house", "LNotWhereYesterday$House;", true)
  | 2 => ("NotWhereYesterday$Chooser", "now", "LNotWhereYesterday$State;", true)
  | 3 => ("NotWhereYesterday$Chooser", "watch", "LNotWhereYesterday$Watch;", true)
  | 4 => ("NotWhereYesterday$Chooser", "score", "[I", true)
  | 5 => ("NotWhereYesterday$Chooser", "together", "[I", true)
  | 6 => ("NotWhereYesterday$Chooser", "blank", "[I", true)
  | 7 => ("NotWhereYesterday$Chooser", "ceiling", "[I", true)
  | 8 => ("NotWhereYesterday$Chooser", "known", "[I", true)
  | 9 => ("NotWhereYesterday$Chooser", "trial", "[I", true)
  | 10 => ("NotWhereYesterday$Chooser", "stamp", "I", false)
  | _ => ("NotWhereYesterday$Chooser", "found", "I", false)
def tyX0 : Nat → FieldType := fun k => match k with
  | 0 => .array .int
  | 1 => .object "NotWhereYesterday$House"
  | 2 => .object "NotWhereYesterday$State"
  | 3 => .object "NotWhereYesterday$Watch"
  | 4 => .array .int
  | 5 => .array .int
  | 6 => .array .int
  | 7 => .array .int
  | 8 => .array .int
  | 9 => .array .int
  | 10 => .int
  | _ => .int
abbrev wsX00 : List Cond := u_ws RX0 TX0 12
theorem nmX0 : ∀ a, a < 12 → ∀ b, b < 12 → a ≠ b → (TX0 a).2.1 ≠ (TX0 b).2.1 := by decide +kernel
theorem tyX0_ok : ∀ k, k < 12 → parseFieldDescriptor (TX0 k).2.2.1 = some (tyX0 k) := by decide +kernel
abbrev cX0_init : ByteArray := prog_2_method_1_code
def yX0_init : MethodName := ⟨RX0, "<init>", "(LNotWhereYesterday$House;LNotWhereYesterday$State;LNotWhereYesterday$Watch;)V"⟩
abbrev cX0_load : ByteArray := prog_2_method_2_code
def yX0_load : MethodName := ⟨RX0, "load", "(II)V"⟩
abbrev cX0_scoreOf : ByteArray := prog_2_method_3_code
def yX0_scoreOf : MethodName := ⟨RX0, "scoreOf", "(IIII)I"⟩
abbrev cX0_preferDraft : ByteArray := prog_2_method_4_code
def yX0_preferDraft : MethodName := ⟨RX0, "preferDraft", "(I)V"⟩
abbrev cX0_greatest : ByteArray := prog_2_method_5_code
def yX0_greatest : MethodName := ⟨RX0, "greatest", "()I"⟩
abbrev cX0_choose : ByteArray := prog_2_method_6_code
def yX0_choose : MethodName := ⟨RX0, "choose", "()I"⟩
abbrev cX0_leastOne : ByteArray := prog_2_method_7_code
def yX0_leastOne : MethodName := ⟨RX0, "leastOne", "(IIII)I"⟩
abbrev cX0_gain : ByteArray := prog_2_method_8_code
def yX0_gain : MethodName := ⟨RX0, "gain", "(III)I"⟩
abbrev cX0_raiseCeiling : ByteArray := prog_2_method_9_code
def yX0_raiseCeiling : MethodName := ⟨RX0, "raiseCeiling", "()V"⟩
abbrev cX0_value : ByteArray := prog_2_method_10_code
def yX0_value : MethodName := ⟨RX0, "value", "(III)I"⟩
abbrev cX0_chooseUnlikeDays : ByteArray := prog_2_method_11_code
def yX0_chooseUnlikeDays : MethodName := ⟨RX0, "chooseUnlikeDays", "()I"⟩
abbrev cX0_tryFrom : ByteArray := prog_2_method_12_code
def yX0_tryFrom : MethodName := ⟨RX0, "tryFrom", "(IIII)V"⟩
abbrev cX0_wasOnNoDay : ByteArray := prog_2_method_13_code
def yX0_wasOnNoDay : MethodName := ⟨RX0, "wasOnNoDay", "()Z"⟩
def RX1 : String := "NotWhereYesterday$House"
def TX1 : u_T := fun k => match k with
  | 0 => ("NotWhereYesterday$House", "people", "I", false)
  | 1 => ("NotWhereYesterday$House", "posts", "I", false)
  | 2 => ("NotWhereYesterday$House", "goesNeeded", "[I", true)
  | 3 => ("NotWhereYesterday$House", "craftOf", "[I", true)
  | 4 => ("NotWhereYesterday$House", "mustBeFilled", "[Z", true)
  | 5 => ("NotWhereYesterday$House", "longDays", "[I", true)
  | _ => ("NotWhereYesterday$House", "lossOf", "[I", true)
def tyX1 : Nat → FieldType := fun k => match k with
  | 0 => .int
  | 1 => .int
  | 2 => .array .int
  | 3 => .array .int
  | 4 => .array .boolean
  | 5 => .array .int
  | _ => .array .int
abbrev wsX10 : List Cond := u_ws RX1 TX1 7
theorem nmX1 : ∀ a, a < 7 → ∀ b, b < 7 → a ≠ b → (TX1 a).2.1 ≠ (TX1 b).2.1 := by decide +kernel
theorem tyX1_ok : ∀ k, k < 7 → parseFieldDescriptor (TX1 k).2.2.1 = some (tyX1 k) := by decide +kernel
abbrev cX1_init : ByteArray := prog_3_method_1_code
def yX1_init : MethodName := ⟨RX1, "<init>", "()V"⟩
abbrev cX1_hasPerson : ByteArray := prog_3_method_2_code
def yX1_hasPerson : MethodName := ⟨RX1, "hasPerson", "(I)Z"⟩
abbrev cX1_hasPost : ByteArray := prog_3_method_3_code
def yX1_hasPost : MethodName := ⟨RX1, "hasPost", "(I)Z"⟩
abbrev cX1_worthOfPost : ByteArray := prog_3_method_4_code
def yX1_worthOfPost : MethodName := ⟨RX1, "worthOfPost", "(I)I"⟩
def RX2 : String := "NotWhereYesterday$Law"
def TX2 : u_T := fun k => match k with
  | 0 => ("NotWhereYesterday$Law", "spans", "[I", true)
  | 1 => ("NotWhereYesterday$Law", "barredTo", "[I", true)
  | 2 => ("NotWhereYesterday$Law", "away", "[I", true)
  | _ => ("NotWhereYesterday$Law", "freePosts", "I", false)
def tyX2 : Nat → FieldType := fun k => match k with
  | 0 => .array .int
  | 1 => .array .int
  | 2 => .array .int
  | _ => .int
abbrev wsX20 : List Cond := u_ws RX2 TX2 4
theorem nmX2 : ∀ a, a < 4 → ∀ b, b < 4 → a ≠ b → (TX2 a).2.1 ≠ (TX2 b).2.1 := by decide +kernel
theorem tyX2_ok : ∀ k, k < 4 → parseFieldDescriptor (TX2 k).2.2.1 = some (tyX2 k) := by decide +kernel
abbrev cX2_init : ByteArray := prog_4_method_1_code
def yX2_init : MethodName := ⟨RX2, "<init>", "()V"⟩
abbrev cX2_clear : ByteArray := prog_4_method_2_code
def yX2_clear : MethodName := ⟨RX2, "clear", "()V"⟩
abbrev cX2_become : ByteArray := prog_4_method_3_code
def yX2_become : MethodName := ⟨RX2, "become", "(LNotWhereYesterday$Law;)V"⟩
abbrev cX2_setFree : ByteArray := prog_4_method_4_code
def yX2_setFree : MethodName := ⟨RX2, "setFree", "(I)V"⟩
abbrev cX2_bar : ByteArray := prog_4_method_5_code
def yX2_bar : MethodName := ⟨RX2, "bar", "(II)V"⟩
abbrev cX2_sendAway : ByteArray := prog_4_method_6_code
def yX2_sendAway : MethodName := ⟨RX2, "sendAway", "(III)V"⟩
abbrev cX2_isFree : ByteArray := prog_4_method_7_code
def yX2_isFree : MethodName := ⟨RX2, "isFree", "(I)Z"⟩
abbrev cX2_bars : ByteArray := prog_4_method_8_code
def yX2_bars : MethodName := ⟨RX2, "bars", "(II)Z"⟩
abbrev cX2_isAway : ByteArray := prog_4_method_9_code
def yX2_isAway : MethodName := ⟨RX2, "isAway", "(II)Z"⟩
def RX3 : String := "NotWhereYesterday$Marks"
def TX3 : u_T := fun k => match k with
  | 0 => ("NotWhereYesterday$Marks", "low", "J", false)
  | _ => ("NotWhereYesterday$Marks", "high", "J", false)
def tyX3 : Nat → FieldType := fun k => match k with
  | 0 => .long
  | _ => .long
abbrev wsX30 : List Cond := u_ws RX3 TX3 2
theorem nmX3 : ∀ a, a < 2 → ∀ b, b < 2 → a ≠ b → (TX3 a).2.1 ≠ (TX3 b).2.1 := by decide +kernel
theorem tyX3_ok : ∀ k, k < 2 → parseFieldDescriptor (TX3 k).2.2.1 = some (tyX3 k) := by decide +kernel
abbrev cX3_init : ByteArray := prog_5_method_1_code
def yX3_init : MethodName := ⟨RX3, "<init>", "()V"⟩
abbrev cX3_clear : ByteArray := prog_5_method_2_code
def yX3_clear : MethodName := ⟨RX3, "clear", "()V"⟩
abbrev cX3_become : ByteArray := prog_5_method_3_code
def yX3_become : MethodName := ⟨RX3, "become", "(LNotWhereYesterday$Marks;)V"⟩
abbrev cX3_add : ByteArray := prog_5_method_4_code
def yX3_add : MethodName := ⟨RX3, "add", "(I)V"⟩
abbrev cX3_remove : ByteArray := prog_5_method_5_code
def yX3_remove : MethodName := ⟨RX3, "remove", "(I)V"⟩
abbrev cX3_has : ByteArray := prog_5_method_6_code
def yX3_has : MethodName := ⟨RX3, "has", "(I)Z"⟩
abbrev cX3_meets : ByteArray := prog_5_method_7_code
def yX3_meets : MethodName := ⟨RX3, "meets", "(LNotWhereYesterday$Marks;)Z"⟩
abbrev cX3_addAll : ByteArray := prog_5_method_8_code
def yX3_addAll : MethodName := ⟨RX3, "addAll", "(LNotWhereYesterday$Marks;)V"⟩
abbrev cX3_keepOnly : ByteArray := prog_5_method_9_code
def yX3_keepOnly : MethodName := ⟨RX3, "keepOnly", "(LNotWhereYesterday$Marks;)V"⟩
abbrev cX3_dropAll : ByteArray := prog_5_method_10_code
def yX3_dropAll : MethodName := ⟨RX3, "dropAll", "(LNotWhereYesterday$Marks;)V"⟩
abbrev cX3_size : ByteArray := prog_5_method_11_code
def yX3_size : MethodName := ⟨RX3, "size", "()I"⟩
def RX4 : String := "NotWhereYesterday$Rounds"
def TX4 : u_T := fun k => match k with
  | 0 => ("NotWhereYesterday$Rounds", "first", "I", false)
  | 1 => ("NotWhereYesterday$Rounds", "second", "I", false)
  | 2 => ("NotWhereYesterday$Rounds", "bestChain", "[I", true)
  | 3 => ("NotWhereYesterday$Rounds", "house", "LNotWhereYesterday$House;", true)
  | 4 => ("NotWhereYesterday$Rounds", "law", "LNotWhereYesterday$Law;", true)
  | 5 => ("NotWhereYesterday$Rounds", "now", "LNotWhereYesterday$State;", true)
  | 6 => ("NotWhereYesterday$Rounds", "watch", "LNotWhereYesterday$Watch;", true)
  | 7 => ("NotWhereYesterday$Rounds", "ones", "[I", true)
  | 8 => ("NotWhereYesterday$Rounds", "at", "[I", true)
  | 9 => ("NotWhereYesterday$Rounds", "near", "[I", true)
  | 10 => ("NotWhereYesterday$Rounds", "next", "[LNotWhereYesterday$Marks;", true)
  | 11 => ("NotWhereYesterday$Rounds", "use", "LNotWhereYesterday$Marks;", true)
  | 12 => ("NotWhereYesterday$Rounds", "front", "LNotWhereYesterday$Marks;", true)
  | 13 => ("NotWhereYesterday$Rounds", "seen", "LNotWhereYesterday$Marks;", true)
  | 14 => ("NotWhereYesterday$Rounds", "step", "LNotWhereYesterday$Marks;", true)
  | 15 => ("NotWhereYesterday$Rounds", "fit", "[LNotWhereYesterday$Marks;", true)
  | 16 => ("NotWhereYesterday$Rounds", "hope", "[I", true)
  | 17 => ("NotWhereYesterday$Rounds", "chain", "[I", true)
  | 18 => ("NotWhereYesterday$Rounds", "nodes", "I", false)
  | _ => ("NotWhereYesterday$Rounds", "mostFound", "I", false)
def tyX4 : Nat → FieldType := fun k => match k with
  | 0 => .int
  | 1 => .int
  | 2 => .array .int
  | 3 => .object "NotWhereYesterday$House"
  | 4 => .object "NotWhereYesterday$Law"
  | 5 => .object "NotWhereYesterday$State"
  | 6 => .object "NotWhereYesterday$Watch"
  | 7 => .array .int
  | 8 => .array .int
  | 9 => .array .int
  | 10 => .array (.object "NotWhereYesterday$Marks")
  | 11 => .object "NotWhereYesterday$Marks"
  | 12 => .object "NotWhereYesterday$Marks"
  | 13 => .object "NotWhereYesterday$Marks"
  | 14 => .object "NotWhereYesterday$Marks"
  | 15 => .array (.object "NotWhereYesterday$Marks")
  | 16 => .array .int
  | 17 => .array .int
  | 18 => .int
  | _ => .int
abbrev wsX40 : List Cond := u_ws RX4 TX4 20
theorem nmX4 : ∀ a, a < 20 → ∀ b, b < 20 → a ≠ b → (TX4 a).2.1 ≠ (TX4 b).2.1 := by decide +kernel
theorem tyX4_ok : ∀ k, k < 20 → parseFieldDescriptor (TX4 k).2.2.1 = some (tyX4 k) := by decide +kernel
abbrev cX4_init : ByteArray := prog_6_method_1_code
def yX4_init : MethodName := ⟨RX4, "<init>", "(LNotWhereYesterday$House;LNotWhereYesterday$Law;LNotWhereYesterday$State;LNotWhereYesterday$Watch;)V"⟩
abbrev cX4_isFew : ByteArray := prog_6_method_2_code
def yX4_isFew : MethodName := ⟨RX4, "isFew", "()Z"⟩
abbrev cX4_oneAt : ByteArray := prog_6_method_3_code
def yX4_oneAt : MethodName := ⟨RX4, "oneAt", "(II)I"⟩
abbrev cX4_build : ByteArray := prog_6_method_4_code
def yX4_build : MethodName := ⟨RX4, "build", "()V"⟩
abbrev cX4_addFrom : ByteArray := prog_6_method_5_code
def yX4_addFrom : MethodName := ⟨RX4, "addFrom", "(II)V"⟩
abbrev cX4_placeBit : ByteArray := prog_6_method_6_code
def yX4_placeBit : MethodName := ⟨RX4, "placeBit", "(II)I"⟩
abbrev cX4_pairBit : ByteArray := prog_6_method_7_code
def yX4_pairBit : MethodName := ⟨RX4, "pairBit", "(II)I"⟩
abbrev cX4_placesOf : ByteArray := prog_6_method_8_code
def yX4_placesOf : MethodName := ⟨RX4, "placesOf", "(I)I"⟩
abbrev cX4_pairsOf : ByteArray := prog_6_method_9_code
def yX4_pairsOf : MethodName := ⟨RX4, "pairsOf", "(I)I"⟩
abbrev cX4_barredBehind : ByteArray := prog_6_method_10_code
def yX4_barredBehind : MethodName := ⟨RX4, "barredBehind", "(I)I"⟩
abbrev cX4_placesBarredTo : ByteArray := prog_6_method_11_code
def yX4_placesBarredTo : MethodName := ⟨RX4, "placesBarredTo", "(II)I"⟩
abbrev cX4_ableBits : ByteArray := prog_6_method_12_code
def yX4_ableBits : MethodName := ⟨RX4, "ableBits", "()I"⟩
abbrev cX4_useBy : ByteArray := prog_6_method_13_code
def yX4_useBy : MethodName := ⟨RX4, "useBy", "(I)V"⟩
abbrev cX4_used : ByteArray := prog_6_method_14_code
def yX4_used : MethodName := ⟨RX4, "used", "()I"⟩
abbrev cX4_lasting : ByteArray := prog_6_method_15_code
def yX4_lasting : MethodName := ⟨RX4, "lasting", "(I)I"⟩
abbrev cX4_shortestRound : ByteArray := prog_6_method_16_code
def yX4_shortestRound : MethodName := ⟨RX4, "shortestRound", "()I"⟩
abbrev cX4_nextOnRound : ByteArray := prog_6_method_17_code
def yX4_nextOnRound : MethodName := ⟨RX4, "nextOnRound", "(II)I"⟩
abbrev cX4_stepsTo : ByteArray := prog_6_method_18_code
def yX4_stepsTo : MethodName := ⟨RX4, "stepsTo", "(II)I"⟩
abbrev cX4_advance : ByteArray := prog_6_method_19_code
def yX4_advance : MethodName := ⟨RX4, "advance", "()V"⟩
abbrev cX4_daysFromYesterday : ByteArray := prog_6_method_20_code
def yX4_daysFromYesterday : MethodName := ⟨RX4, "daysFromYesterday", "()I"⟩
abbrev cX4_keepBehindYesterday : ByteArray := prog_6_method_21_code
def yX4_keepBehindYesterday : MethodName := ⟨RX4, "keepBehindYesterday", "()V"⟩
abbrev cX4_fewestLessons : ByteArray := prog_6_method_22_code
def yX4_fewestLessons : MethodName := ⟨RX4, "fewestLessons", "()I"⟩
abbrev cX4_addsUp : ByteArray := prog_6_method_23_code
def yX4_addsUp : MethodName := ⟨RX4, "addsUp", "(III)Z"⟩
abbrev cX4_lessonBits : ByteArray := prog_6_method_24_code
def yX4_lessonBits : MethodName := ⟨RX4, "lessonBits", "(I)I"⟩
abbrev cX4_mostParts : ByteArray := prog_6_method_25_code
def yX4_mostParts : MethodName := ⟨RX4, "mostParts", "(I)I"⟩
abbrev cX4_findFit : ByteArray := prog_6_method_26_code
def yX4_findFit : MethodName := ⟨RX4, "findFit", "(II)V"⟩
abbrev cX4_hopeBehind : ByteArray := prog_6_method_27_code
def yX4_hopeBehind : MethodName := ⟨RX4, "hopeBehind", "(II)I"⟩
abbrev cX4_seekChain : ByteArray := prog_6_method_28_code
def yX4_seekChain : MethodName := ⟨RX4, "seekChain", "(III)V"⟩
abbrev cX4_followsChain : ByteArray := prog_6_method_29_code
def yX4_followsChain : MethodName := ⟨RX4, "followsChain", "(II)Z"⟩
abbrev cX4_mayFollowByTwo : ByteArray := prog_6_method_30_code
def yX4_mayFollowByTwo : MethodName := ⟨RX4, "mayFollowByTwo", "(II)Z"⟩
abbrev cX4_partsBehind : ByteArray := prog_6_method_31_code
def yX4_partsBehind : MethodName := ⟨RX4, "partsBehind", "(II)I"⟩
def RX5 : String := "NotWhereYesterday$RuleReader"
def TX5 : u_T := fun k => match k with
  | 0 => ("NotWhereYesterday$RuleReader", "found", "LNotWhereYesterday$Law;", true)
  | 1 => ("NotWhereYesterday$RuleReader", "text", "[I", true)
  | 2 => ("NotWhereYesterday$RuleReader", "end", "I", false)
  | _ => ("NotWhereYesterday$RuleReader", "at", "I", false)
def tyX5 : Nat → FieldType := fun k => match k with
  | 0 => .object "NotWhereYesterday$Law"
  | 1 => .array .int
  | 2 => .int
  | _ => .int
abbrev wsX50 : List Cond := u_ws RX5 TX5 4
theorem nmX5 : ∀ a, a < 4 → ∀ b, b < 4 → a ≠ b → (TX5 a).2.1 ≠ (TX5 b).2.1 := by decide +kernel
theorem tyX5_ok : ∀ k, k < 4 → parseFieldDescriptor (TX5 k).2.2.1 = some (tyX5 k) := by decide +kernel
abbrev cX5_init : ByteArray := prog_7_method_1_code
def yX5_init : MethodName := ⟨RX5, "<init>", "([I)V"⟩
abbrev cX5_read : ByteArray := prog_7_method_2_code
def yX5_read : MethodName := ⟨RX5, "read", "(I)I"⟩
abbrev cX5_readLine : ByteArray := prog_7_method_3_code
def yX5_readLine : MethodName := ⟨RX5, "readLine", "()Z"⟩
abbrev cX5_readSpan : ByteArray := prog_7_method_4_code
def yX5_readSpan : MethodName := ⟨RX5, "readSpan", "(I)Z"⟩
abbrev cX5_readFree : ByteArray := prog_7_method_5_code
def yX5_readFree : MethodName := ⟨RX5, "readFree", "()Z"⟩
abbrev cX5_readBar : ByteArray := prog_7_method_6_code
def yX5_readBar : MethodName := ⟨RX5, "readBar", "()Z"⟩
abbrev cX5_readAway : ByteArray := prog_7_method_7_code
def yX5_readAway : MethodName := ⟨RX5, "readAway", "()Z"⟩
abbrev cX5_take : ByteArray := prog_7_method_8_code
def yX5_take : MethodName := ⟨RX5, "take", "(I)Z"⟩
abbrev cX5_digit : ByteArray := prog_7_method_9_code
def yX5_digit : MethodName := ⟨RX5, "digit", "()I"⟩
abbrev cX5_oneOrTwoDigits : ByteArray := prog_7_method_10_code
def yX5_oneOrTwoDigits : MethodName := ⟨RX5, "oneOrTwoDigits", "()I"⟩
def RX6 : String := "NotWhereYesterday$State"
def TX6 : u_T := fun k => match k with
  | 0 => ("NotWhereYesterday$State", "days", "[I", true)
  | 1 => ("NotWhereYesterday$State", "done", "[I", true)
  | 2 => ("NotWhereYesterday$State", "parts", "[I", true)
  | 3 => ("NotWhereYesterday$State", "lastBy", "[I", true)
  | 4 => ("NotWhereYesterday$State", "craftsHad", "[I", true)
  | 5 => ("NotWhereYesterday$State", "goesHad", "[I", true)
  | 6 => ("NotWhereYesterday$State", "today", "I", false)
  | 7 => ("NotWhereYesterday$State", "keptPeople", "I", false)
  | _ => ("NotWhereYesterday$State", "keptPosts", "I", false)
def tyX6 : Nat → FieldType := fun k => match k with
  | 0 => .array .int
  | 1 => .array .int
  | 2 => .array .int
  | 3 => .array .int
  | 4 => .array .int
  | 5 => .array .int
  | 6 => .int
  | 7 => .int
  | _ => .int
abbrev wsX60 : List Cond := u_ws RX6 TX6 9
theorem nmX6 : ∀ a, a < 9 → ∀ b, b < 9 → a ≠ b → (TX6 a).2.1 ≠ (TX6 b).2.1 := by decide +kernel
theorem tyX6_ok : ∀ k, k < 9 → parseFieldDescriptor (TX6 k).2.2.1 = some (tyX6 k) := by decide +kernel
abbrev cX6_init : ByteArray := prog_8_method_1_code
def yX6_init : MethodName := ⟨RX6, "<init>", "()V"⟩
abbrev cX6_become : ByteArray := prog_8_method_2_code
def yX6_become : MethodName := ⟨RX6, "become", "(LNotWhereYesterday$State;)V"⟩
abbrev cX6_onePlaced : ByteArray := prog_8_method_3_code
def yX6_onePlaced : MethodName := ⟨RX6, "onePlaced", "(II)I"⟩
abbrev cX6_postOf : ByteArray := prog_8_method_4_code
def yX6_postOf : MethodName := ⟨RX6, "postOf", "(II)I"⟩
abbrev cX6_neighboursOf : ByteArray := prog_8_method_5_code
def yX6_neighboursOf : MethodName := ⟨RX6, "neighboursOf", "(II)I"⟩
abbrev cX6_bitOf : ByteArray := prog_8_method_6_code
def yX6_bitOf : MethodName := ⟨RX6, "bitOf", "(I)I"⟩
abbrev cX6_sameDays : ByteArray := prog_8_method_7_code
def yX6_sameDays : MethodName := ⟨RX6, "sameDays", "(II)Z"⟩
abbrev cX6_place : ByteArray := prog_8_method_8_code
def yX6_place : MethodName := ⟨RX6, "place", "(II)V"⟩
abbrev cX6_clearDraft : ByteArray := prog_8_method_9_code
def yX6_clearDraft : MethodName := ⟨RX6, "clearDraft", "()V"⟩
abbrev cX6_isAble : ByteArray := prog_8_method_10_code
def yX6_isAble : MethodName := ⟨RX6, "isAble", "(LNotWhereYesterday$House;II)Z"⟩
abbrev cX6_goBy : ByteArray := prog_8_method_11_code
def yX6_goBy : MethodName := ⟨RX6, "goBy", "(LNotWhereYesterday$House;)V"⟩
abbrev cX6_work : ByteArray := prog_8_method_12_code
def yX6_work : MethodName := ⟨RX6, "work", "(LNotWhereYesterday$House;II)V"⟩
abbrev cX6_learn : ByteArray := prog_8_method_13_code
def yX6_learn : MethodName := ⟨RX6, "learn", "(LNotWhereYesterday$House;II)V"⟩
def RX7 : String := "NotWhereYesterday$Watch"
def TX7 : u_T := fun k => match k with
  | 0 => ("NotWhereYesterday$Watch", "house", "LNotWhereYesterday$House;", true)
  | 1 => ("NotWhereYesterday$Watch", "law", "LNotWhereYesterday$Law;", true)
  | _ => ("NotWhereYesterday$Watch", "now", "LNotWhereYesterday$State;", true)
def tyX7 : Nat → FieldType := fun k => match k with
  | 0 => .object "NotWhereYesterday$House"
  | 1 => .object "NotWhereYesterday$Law"
  | _ => .object "NotWhereYesterday$State"
abbrev wsX70 : List Cond := u_ws RX7 TX7 3
theorem nmX7 : ∀ a, a < 3 → ∀ b, b < 3 → a ≠ b → (TX7 a).2.1 ≠ (TX7 b).2.1 := by decide +kernel
theorem tyX7_ok : ∀ k, k < 3 → parseFieldDescriptor (TX7 k).2.2.1 = some (tyX7 k) := by decide +kernel
abbrev cX7_init : ByteArray := prog_9_method_1_code
def yX7_init : MethodName := ⟨RX7, "<init>", "(LNotWhereYesterday$House;LNotWhereYesterday$Law;LNotWhereYesterday$State;)V"⟩
abbrev cX7_whyNot : ByteArray := prog_9_method_2_code
def yX7_whyNot : MethodName := ⟨RX7, "whyNot", "(III)I"⟩
abbrev cX7_mayMeet : ByteArray := prog_9_method_3_code
def yX7_mayMeet : MethodName := ⟨RX7, "mayMeet", "(III)Z"⟩
abbrev cX7_metLately : ByteArray := prog_9_method_4_code
def yX7_metLately : MethodName := ⟨RX7, "metLately", "(II)I"⟩
abbrev cX7_isAble : ByteArray := prog_9_method_5_code
def yX7_isAble : MethodName := ⟨RX7, "isAble", "(II)Z"⟩
abbrev cX7_barredPair : ByteArray := prog_9_method_6_code
def yX7_barredPair : MethodName := ⟨RX7, "barredPair", "(II)Z"⟩
abbrev cX7_reason : ByteArray := prog_9_method_7_code
def yX7_reason : MethodName := ⟨RX7, "reason", "(IIZ)I"⟩
abbrev cX7_isGood : ByteArray := prog_9_method_8_code
def yX7_isGood : MethodName := ⟨RX7, "isGood", "(IZ)Z"⟩
abbrev cX7_worthOn : ByteArray := prog_9_method_9_code
def yX7_worthOn : MethodName := ⟨RX7, "worthOn", "(I)I"⟩
abbrev cX7_worthOf : ByteArray := prog_9_method_10_code
def yX7_worthOf : MethodName := ⟨RX7, "worthOf", "([I)I"⟩
abbrev cX7_timesBroken : ByteArray := prog_9_method_11_code
def yX7_timesBroken : MethodName := ⟨RX7, "timesBroken", "([I)I"⟩
abbrev cX7_ableOnes : ByteArray := prog_9_method_12_code
def yX7_ableOnes : MethodName := ⟨RX7, "ableOnes", "(I)I"⟩
abbrev cX7_candidates : ByteArray := prog_9_method_13_code
def yX7_candidates : MethodName := ⟨RX7, "candidates", "(I)I"⟩
def RX8 : String := "NotWhereYesterday"
def TX8 : u_T := fun k => match k with
  | 0 => ("NotWhereYesterday", "house", "LNotWhereYesterday$House;", true)
  | 1 => ("NotWhereYesterday", "theRule", "LNotWhereYesterday$Law;", true)
  | 2 => ("NotWhereYesterday", "now", "LNotWhereYesterday$State;", true)
  | 3 => ("NotWhereYesterday", "kept", "[LNotWhereYesterday$State;", true)
  | 4 => ("NotWhereYesterday", "text", "[I", true)
  | 5 => ("NotWhereYesterday", "reader", "LNotWhereYesterday$RuleReader;", true)
  | 6 => ("NotWhereYesterday", "watch", "LNotWhereYesterday$Watch;", true)
  | 7 => ("NotWhereYesterday", "chooser", "LNotWhereYesterday$Chooser;", true)
  | 8 => ("NotWhereYesterday", "rounds", "LNotWhereYesterday$Rounds;", true)
  | 9 => ("NotWhereYesterday", "told", "[I", true)
  | 10 => ("NotWhereYesterday", "bits", "[I", true)
  | 11 => ("NotWhereYesterday", "signs", "I", false)
  | _ => ("NotWhereYesterday", "toldLength", "I", false)
def tyX8 : Nat → FieldType := fun k => match k with
  | 0 => .object "NotWhereYesterday$House"
  | 1 => .object "NotWhereYesterday$Law"
  | 2 => .object "NotWhereYesterday$State"
  | 3 => .array (.object "NotWhereYesterday$State")
  | 4 => .array .int
  | 5 => .object "NotWhereYesterday$RuleReader"
  | 6 => .object "NotWhereYesterday$Watch"
  | 7 => .object "NotWhereYesterday$Chooser"
  | 8 => .object "NotWhereYesterday$Rounds"
  | 9 => .array .int
  | 10 => .array .int
  | 11 => .int
  | _ => .int
abbrev wsX80 : List Cond := u_ws RX8 TX8 13
theorem nmX8 : ∀ a, a < 13 → ∀ b, b < 13 → a ≠ b → (TX8 a).2.1 ≠ (TX8 b).2.1 := by decide +kernel
theorem tyX8_ok : ∀ k, k < 13 → parseFieldDescriptor (TX8 k).2.2.1 = some (tyX8 k) := by decide +kernel
abbrev cX8_init : ByteArray := prog_1_method_1_code
def yX8_init : MethodName := ⟨RX8, "<init>", "()V"⟩
abbrev cX8_person : ByteArray := prog_1_method_2_code
def yX8_person : MethodName := ⟨RX8, "person", "(II)I"⟩
abbrev cX8_post : ByteArray := prog_1_method_3_code
def yX8_post : MethodName := ⟨RX8, "post", "(IZII)I"⟩
abbrev cX8_sign : ByteArray := prog_1_method_4_code
def yX8_sign : MethodName := ⟨RX8, "sign", "(I)I"⟩
abbrev cX8_end : ByteArray := prog_1_method_5_code
def yX8_end : MethodName := ⟨RX8, "end", "(I)Z"⟩
abbrev cX8_rule : ByteArray := prog_1_method_6_code
def yX8_rule : MethodName := ⟨RX8, "rule", "()I"⟩
abbrev cX8_crafts : ByteArray := prog_1_method_7_code
def yX8_crafts : MethodName := ⟨RX8, "crafts", "(II)I"⟩
abbrev cX8_may : ByteArray := prog_1_method_8_code
def yX8_may : MethodName := ⟨RX8, "may", "(II)I"⟩
abbrev cX8_beside : ByteArray := prog_1_method_9_code
def yX8_beside : MethodName := ⟨RX8, "beside", "(II)I"⟩
abbrev cX8_put : ByteArray := prog_1_method_10_code
def yX8_put : MethodName := ⟨RX8, "put", "(II)I"⟩
abbrev cX8_sheet : ByteArray := prog_1_method_11_code
def yX8_sheet : MethodName := ⟨RX8, "sheet", "(IIII)I"⟩
abbrev cX8_entry : ByteArray := prog_1_method_12_code
def yX8_entry : MethodName := ⟨RX8, "entry", "(II)I"⟩
abbrev cX8_filledPosts : ByteArray := prog_1_method_13_code
def yX8_filledPosts : MethodName := ⟨RX8, "filledPosts", "()I"⟩
abbrev cX8_good : ByteArray := prog_1_method_14_code
def yX8_good : MethodName := ⟨RX8, "good", "()I"⟩
abbrev cX8_day : ByteArray := prog_1_method_15_code
def yX8_day : MethodName := ⟨RX8, "day", "()I"⟩
abbrev cX8_who : ByteArray := prog_1_method_16_code
def yX8_who : MethodName := ⟨RX8, "who", "(II)I"⟩
abbrev cX8_judge : ByteArray := prog_1_method_17_code
def yX8_judge : MethodName := ⟨RX8, "judge", "(I)I"⟩
abbrev cX8_wrongOn : ByteArray := prog_1_method_18_code
def yX8_wrongOn : MethodName := ⟨RX8, "wrongOn", "(II)I"⟩
abbrev cX8_broken : ByteArray := prog_1_method_19_code
def yX8_broken : MethodName := ⟨RX8, "broken", "()I"⟩
abbrev cX8_works : ByteArray := prog_1_method_20_code
def yX8_works : MethodName := ⟨RX8, "works", "(I)I"⟩
abbrev cX8_best : ByteArray := prog_1_method_21_code
def yX8_best : MethodName := ⟨RX8, "best", "()I"⟩
abbrev cX8_fill : ByteArray := prog_1_method_22_code
def yX8_fill : MethodName := ⟨RX8, "fill", "()I"⟩
abbrev cX8_fillDraft : ByteArray := prog_1_method_23_code
def yX8_fillDraft : MethodName := ⟨RX8, "fillDraft", "()I"⟩
abbrev cX8_ill : ByteArray := prog_1_method_24_code
def yX8_ill : MethodName := ⟨RX8, "ill", "(I)I"⟩
abbrev cX8_free : ByteArray := prog_1_method_25_code
def yX8_free : MethodName := ⟨RX8, "free", "(I)I"⟩
abbrev cX8_bestWorth : ByteArray := prog_1_method_26_code
def yX8_bestWorth : MethodName := ⟨RX8, "bestWorth", "(I)I"⟩
abbrev cX8_worth : ByteArray := prog_1_method_27_code
def yX8_worth : MethodName := ⟨RX8, "worth", "()I"⟩
abbrev cX8_none : ByteArray := prog_1_method_28_code
def yX8_none : MethodName := ⟨RX8, "none", "()I"⟩
abbrev cX8_candidatesOf : ByteArray := prog_1_method_29_code
def yX8_candidatesOf : MethodName := ⟨RX8, "candidatesOf", "(I)I"⟩
abbrev cX8_can : ByteArray := prog_1_method_30_code
def yX8_can : MethodName := ⟨RX8, "can", "(I)I"⟩
abbrev cX8_breaking : ByteArray := prog_1_method_31_code
def yX8_breaking : MethodName := ⟨RX8, "breaking", "(I)I"⟩
abbrev cX8_few : ByteArray := prog_1_method_32_code
def yX8_few : MethodName := ⟨RX8, "few", "(I)I"⟩
abbrev cX8_till : ByteArray := prog_1_method_33_code
def yX8_till : MethodName := ⟨RX8, "till", "(II)I"⟩
abbrev cX8_law : ByteArray := prog_1_method_34_code
def yX8_law : MethodName := ⟨RX8, "law", "(II)I"⟩
abbrev cX8_price : ByteArray := prog_1_method_35_code
def yX8_price : MethodName := ⟨RX8, "price", "(I)I"⟩
abbrev cX8_worthWith : ByteArray := prog_1_method_36_code
def yX8_worthWith : MethodName := ⟨RX8, "worthWith", "(II)I"⟩
abbrev cX8_written : ByteArray := prog_1_method_37_code
def yX8_written : MethodName := ⟨RX8, "written", "()I"⟩
abbrev cX8_addMeetings : ByteArray := prog_1_method_38_code
def yX8_addMeetings : MethodName := ⟨RX8, "addMeetings", "(I)V"⟩
abbrev cX8_countBits : ByteArray := prog_1_method_39_code
def yX8_countBits : MethodName := ⟨RX8, "countBits", "()I"⟩
abbrev cX8_ever : ByteArray := prog_1_method_40_code
def yX8_ever : MethodName := ⟨RX8, "ever", "()I"⟩
abbrev cX8_round : ByteArray := prog_1_method_41_code
def yX8_round : MethodName := ⟨RX8, "round", "()I"⟩
abbrev cX8_lasts : ByteArray := prog_1_method_42_code
def yX8_lasts : MethodName := ⟨RX8, "lasts", "()I"⟩
abbrev cX8_lessons : ByteArray := prog_1_method_43_code
def yX8_lessons : MethodName := ⟨RX8, "lessons", "()I"⟩
abbrev cX8_tellLesson : ByteArray := prog_1_method_44_code
def yX8_tellLesson : MethodName := ⟨RX8, "tellLesson", "(I)V"⟩
abbrev cX8_most : ByteArray := prog_1_method_45_code
def yX8_most : MethodName := ⟨RX8, "most", "(I)I"⟩
abbrev cX8_tellNode : ByteArray := prog_1_method_46_code
def yX8_tellNode : MethodName := ⟨RX8, "tellNode", "(I)V"⟩
abbrev cX8_fresh : ByteArray := prog_1_method_47_code
def yX8_fresh : MethodName := ⟨RX8, "fresh", "()I"⟩
abbrev cX8_go : ByteArray := prog_1_method_48_code
def yX8_go : MethodName := ⟨RX8, "go", "(II)I"⟩
abbrev cX8_draftByKind : ByteArray := prog_1_method_49_code
def yX8_draftByKind : MethodName := ⟨RX8, "draftByKind", "(I)V"⟩
abbrev cX8_oneByKind : ByteArray := prog_1_method_50_code
def yX8_oneByKind : MethodName := ⟨RX8, "oneByKind", "(II)I"⟩
abbrev cX8_zigzag : ByteArray := prog_1_method_51_code
def yX8_zigzag : MethodName := ⟨RX8, "zigzag", "(III)I"⟩
abbrev cX8_met : ByteArray := prog_1_method_52_code
def yX8_met : MethodName := ⟨RX8, "met", "(I)I"⟩
abbrev cX8_all : ByteArray := prog_1_method_53_code
def yX8_all : MethodName := ⟨RX8, "all", "()I"⟩
abbrev cX8_soon : ByteArray := prog_1_method_54_code
def yX8_soon : MethodName := ⟨RX8, "soon", "(I)I"⟩
abbrev cX8_often : ByteArray := prog_1_method_55_code
def yX8_often : MethodName := ⟨RX8, "often", "(II)I"⟩
abbrev cX8_alternate : ByteArray := prog_1_method_56_code
def yX8_alternate : MethodName := ⟨RX8, "alternate", "(I)I"⟩
abbrev cX8_chairs : ByteArray := prog_1_method_57_code
def yX8_chairs : MethodName := ⟨RX8, "chairs", "(I)I"⟩
abbrev cX8_chairsOf : ByteArray := prog_1_method_58_code
def yX8_chairsOf : MethodName := ⟨RX8, "chairsOf", "(I)I"⟩
abbrev cX8_unlike : ByteArray := prog_1_method_59_code
def yX8_unlike : MethodName := ⟨RX8, "unlike", "()I"⟩
abbrev cX8_comesAgain : ByteArray := prog_1_method_60_code
def yX8_comesAgain : MethodName := ⟨RX8, "comesAgain", "(I)Z"⟩
abbrev cX8_keep : ByteArray := prog_1_method_61_code
def yX8_keep : MethodName := ⟨RX8, "keep", "(I)Z"⟩
abbrev cX8_again : ByteArray := prog_1_method_62_code
def yX8_again : MethodName := ⟨RX8, "again", "(I)Z"⟩
abbrev cX8_count : ByteArray := prog_1_method_63_code
def yX8_count : MethodName := ⟨RX8, "count", "(I)I"⟩
abbrev cX8_row : ByteArray := prog_1_method_64_code
def yX8_row : MethodName := ⟨RX8, "row", "(I)I"⟩
abbrev cX8_clearRow : ByteArray := prog_1_method_65_code
def yX8_clearRow : MethodName := ⟨RX8, "clearRow", "()V"⟩
abbrev cX8_tell : ByteArray := prog_1_method_66_code
def yX8_tell : MethodName := ⟨RX8, "tell", "(I)V"⟩
abbrev cX8_tellFilling : ByteArray := prog_1_method_67_code
def yX8_tellFilling : MethodName := ⟨RX8, "tellFilling", "([I)V"⟩
def RX9 : String := "NotWhereYesterdayModel"
def TX9 : u_T := fun k => match k with
  | 0 => ("NotWhereYesterdayModel", "thrown", "I", false)
  | 1 => ("NotWhereYesterdayModel", "rows", "I", false)
  | 2 => ("NotWhereYesterdayModel", "row", "[I", true)
  | 3 => ("NotWhereYesterdayModel", "people", "I", false)
  | 4 => ("NotWhereYesterdayModel", "craftsOf", "[I", true)
  | 5 => ("NotWhereYesterdayModel", "goesOf", "[I", true)
  | 6 => ("NotWhereYesterdayModel", "gone", "[I", true)
  | 7 => ("NotWhereYesterdayModel", "posts", "I", false)
  | 8 => ("NotWhereYesterdayModel", "craftAt", "[I", true)
  | 9 => ("NotWhereYesterdayModel", "must", "[Z", true)
  | 10 => ("NotWhereYesterdayModel", "longAt", "[I", true)
  | 11 => ("NotWhereYesterdayModel", "lossAt", "[I", true)
  | 12 => ("NotWhereYesterdayModel", "parts", "[I", true)
  | 13 => ("NotWhereYesterdayModel", "done", "[I", true)
  | 14 => ("NotWhereYesterdayModel", "last", "[I", true)
  | 15 => ("NotWhereYesterdayModel", "today", "I", false)
  | 16 => ("NotWhereYesterdayModel", "at", "[I", true)
  | 17 => ("NotWhereYesterdayModel", "where", "I", false)
  | 18 => ("NotWhereYesterdayModel", "beside", "I", false)
  | 19 => ("NotWhereYesterdayModel", "free", "I", false)
  | 20 => ("NotWhereYesterdayModel", "notTo", "[I", true)
  | 21 => ("NotWhereYesterdayModel", "aways", "I", false)
  | 22 => ("NotWhereYesterdayModel", "awayWho", "[I", true)
  | 23 => ("NotWhereYesterdayModel", "awayFrom", "[I", true)
  | 24 => ("NotWhereYesterdayModel", "awayTo", "[I", true)
  | 25 => ("NotWhereYesterdayModel", "readWhere", "I", false)
  | 26 => ("NotWhereYesterdayModel", "readBeside", "I", false)
  | 27 => ("NotWhereYesterdayModel", "readFree", "I", false)
  | 28 => ("NotWhereYesterdayModel", "readNotTo", "[I", true)
  | 29 => ("NotWhereYesterdayModel", "readAways", "I", false)
  | 30 => ("NotWhereYesterdayModel", "readWho", "[I", true)
  | 31 => ("NotWhereYesterdayModel", "readFrom", "[I", true)
  | 32 => ("NotWhereYesterdayModel", "readTo", "[I", true)
  | 33 => ("NotWhereYesterdayModel", "tape", "[I", true)
  | 34 => ("NotWhereYesterdayModel", "taped", "I", false)
  | 35 => ("NotWhereYesterdayModel", "place", "I", false)
  | 36 => ("NotWhereYesterdayModel", "to", "I", false)
  | 37 => ("NotWhereYesterdayModel", "illNow", "I", false)
  | 38 => ("NotWhereYesterdayModel", "freeNow", "I", false)
  | 39 => ("NotWhereYesterdayModel", "four", "[I", true)
  | 40 => ("NotWhereYesterdayModel", "most", "[I", true)
  | 41 => ("NotWhereYesterdayModel", "mayAt", "[I", true)
  | 42 => ("NotWhereYesterdayModel", "mayWith", "[I", true)
  | 43 => ("NotWhereYesterdayModel", "bestAt", "[I", true)
  | 44 => ("NotWhereYesterdayModel", "isLike", "Z", false)
  | 45 => ("NotWhereYesterdayModel", "priceNow", "I", false)
  | 46 => ("NotWhereYesterdayModel", "lists", "[I", true)
  | 47 => ("NotWhereYesterdayModel", "listMany", "I", false)
  | 48 => ("NotWhereYesterdayModel", "leads", "[Z", true)
  | 49 => ("NotWhereYesterdayModel", "goesOn", "[Z", true)
  | 50 => ("NotWhereYesterdayModel", "tried", "[I", true)
  | 51 => ("NotWhereYesterdayModel", "daysTo", "[I", true)
  | 52 => ("NotWhereYesterdayModel", "queue", "[I", true)
  | 53 => ("NotWhereYesterdayModel", "isThere", "[Z", true)
  | 54 => ("NotWhereYesterdayModel", "isNext", "[Z", true)
  | 55 => ("NotWhereYesterdayModel", "chosen", "[I", true)
  | 56 => ("NotWhereYesterdayModel", "chosenBest", "[I", true)
  | 57 => ("NotWhereYesterdayModel", "doer", "[I", true)
  | 58 => ("NotWhereYesterdayModel", "brought", "I", false)
  | 59 => ("NotWhereYesterdayModel", "freshWorth", "I", false)
  | 60 => ("NotWhereYesterdayModel", "metOf", "[I", true)
  | 61 => ("NotWhereYesterdayModel", "isKept", "[Z", true)
  | 62 => ("NotWhereYesterdayModel", "keptPeople", "[I", true)
  | 63 => ("NotWhereYesterdayModel", "keptPosts", "[I", true)
  | 64 => ("NotWhereYesterdayModel", "kept", "[I", true)
  | _ => ("NotWhereYesterdayModel", "keptAt", "I", false)
def tyX9 : Nat → FieldType := fun k => match k with
  | 0 => .int
  | 1 => .int
  | 2 => .array .int
  | 3 => .int
  | 4 => .array .int
  | 5 => .array .int
  | 6 => .array .int
  | 7 => .int
  | 8 => .array .int
  | 9 => .array .boolean
  | 10 => .array .int
  | 11 => .array .int
  | 12 => .array .int
  | 13 => .array .int
  | 14 => .array .int
  | 15 => .int
  | 16 => .array .int
  | 17 => .int
  | 18 => .int
  | 19 => .int
  | 20 => .array .int
  | 21 => .int
  | 22 => .array .int
  | 23 => .array .int
  | 24 => .array .int
  | 25 => .int
  | 26 => .int
  | 27 => .int
  | 28 => .array .int
  | 29 => .int
  | 30 => .array .int
  | 31 => .array .int
  | 32 => .array .int
  | 33 => .array .int
  | 34 => .int
  | 35 => .int
  | 36 => .int
  | 37 => .int
  | 38 => .int
  | 39 => .array .int
  | 40 => .array .int
  | 41 => .array .int
  | 42 => .array .int
  | 43 => .array .int
  | 44 => .boolean
  | 45 => .int
  | 46 => .array .int
  | 47 => .int
  | 48 => .array .boolean
  | 49 => .array .boolean
  | 50 => .array .int
  | 51 => .array .int
  | 52 => .array .int
  | 53 => .array .boolean
  | 54 => .array .boolean
  | 55 => .array .int
  | 56 => .array .int
  | 57 => .array .int
  | 58 => .int
  | 59 => .int
  | 60 => .array .int
  | 61 => .array .boolean
  | 62 => .array .int
  | 63 => .array .int
  | 64 => .array .int
  | _ => .int
abbrev wsX90 : List Cond := u_ws RX9 TX9 66
theorem nmX9 : ∀ a, a < 66 → ∀ b, b < 66 → a ≠ b → (TX9 a).2.1 ≠ (TX9 b).2.1 := by decide +kernel
theorem tyX9_ok : ∀ k, k < 66 → parseFieldDescriptor (TX9 k).2.2.1 = some (tyX9 k) := by decide +kernel
abbrev cX9_thrown : ByteArray := prog_11_method_1_code
def yX9_thrown : MethodName := ⟨RX9, "thrown", "()I"⟩
abbrev cX9_in : ByteArray := prog_11_method_2_code
def yX9_in : MethodName := ⟨RX9, "in", "(JJJ)Z"⟩
abbrev cX9_has : ByteArray := prog_11_method_3_code
def yX9_has : MethodName := ⟨RX9, "has", "(II)Z"⟩
abbrev cX9_flag : ByteArray := prog_11_method_4_code
def yX9_flag : MethodName := ⟨RX9, "flag", "(Z)I"⟩
abbrev cX9_enters : ByteArray := prog_11_method_5_code
def yX9_enters : MethodName := ⟨RX9, "enters", "(I)V"⟩
abbrev cX9_person : ByteArray := prog_11_method_6_code
def yX9_person : MethodName := ⟨RX9, "person", "(II)I"⟩
abbrev cX9_post : ByteArray := prog_11_method_7_code
def yX9_post : MethodName := ⟨RX9, "post", "(IZII)I"⟩
abbrev cX9_isPerson : ByteArray := prog_11_method_8_code
def yX9_isPerson : MethodName := ⟨RX9, "isPerson", "(I)Z"⟩
abbrev cX9_isPost : ByteArray := prog_11_method_9_code
def yX9_isPost : MethodName := ⟨RX9, "isPost", "(I)Z"⟩
abbrev cX9_sign : ByteArray := prog_11_method_10_code
def yX9_sign : MethodName := ⟨RX9, "sign", "(I)I"⟩
abbrev cX9_end : ByteArray := prog_11_method_11_code
def yX9_end : MethodName := ⟨RX9, "end", "(I)Z"⟩
abbrev cX9_takes : ByteArray := prog_11_method_12_code
def yX9_takes : MethodName := ⟨RX9, "takes", "(I)Z"⟩
abbrev cX9_isDigit : ByteArray := prog_11_method_13_code
def yX9_isDigit : MethodName := ⟨RX9, "isDigit", "()Z"⟩
abbrev cX9_digit : ByteArray := prog_11_method_14_code
def yX9_digit : MethodName := ⟨RX9, "digit", "()I"⟩
abbrev cX9_dayFrom : ByteArray := prog_11_method_15_code
def yX9_dayFrom : MethodName := ⟨RX9, "dayFrom", "(I)I"⟩
abbrev cX9_readsAway : ByteArray := prog_11_method_16_code
def yX9_readsAway : MethodName := ⟨RX9, "readsAway", "()Z"⟩
abbrev cX9_readsLine : ByteArray := prog_11_method_17_code
def yX9_readsLine : MethodName := ⟨RX9, "readsLine", "()Z"⟩
abbrev cX9_rule : ByteArray := prog_11_method_18_code
def yX9_rule : MethodName := ⟨RX9, "rule", "()I"⟩
abbrev cX9_on : ByteArray := prog_11_method_19_code
def yX9_on : MethodName := ⟨RX9, "on", "(II)I"⟩
abbrev cX9_isAway : ByteArray := prog_11_method_20_code
def yX9_isAway : MethodName := ⟨RX9, "isAway", "(II)Z"⟩
abbrev cX9_wasThere : ByteArray := prog_11_method_21_code
def yX9_wasThere : MethodName := ⟨RX9, "wasThere", "(III)Z"⟩
abbrev cX9_comesWrong : ByteArray := prog_11_method_22_code
def yX9_comesWrong : MethodName := ⟨RX9, "comesWrong", "(III)Z"⟩
abbrev cX9_isFree : ByteArray := prog_11_method_23_code
def yX9_isFree : MethodName := ⟨RX9, "isFree", "(II)Z"⟩
abbrev cX9_canDo : ByteArray := prog_11_method_24_code
def yX9_canDo : MethodName := ⟨RX9, "canDo", "(II)Z"⟩
abbrev cX9_why : ByteArray := prog_11_method_25_code
def yX9_why : MethodName := ⟨RX9, "why", "(III)I"⟩
abbrev cX9_wereBeside : ByteArray := prog_11_method_26_code
def yX9_wereBeside : MethodName := ⟨RX9, "wereBeside", "(III)Z"⟩
abbrev cX9_mayBeside : ByteArray := prog_11_method_27_code
def yX9_mayBeside : MethodName := ⟨RX9, "mayBeside", "(III)Z"⟩
abbrev cX9_whyAt : ByteArray := prog_11_method_28_code
def yX9_whyAt : MethodName := ⟨RX9, "whyAt", "(III)I"⟩
abbrev cX9_isGood : ByteArray := prog_11_method_29_code
def yX9_isGood : MethodName := ⟨RX9, "isGood", "(II)Z"⟩
abbrev cX9_worthAt : ByteArray := prog_11_method_30_code
def yX9_worthAt : MethodName := ⟨RX9, "worthAt", "(II)I"⟩
abbrev cX9_worthOf : ByteArray := prog_11_method_31_code
def yX9_worthOf : MethodName := ⟨RX9, "worthOf", "(I)I"⟩
abbrev cX9_crafts : ByteArray := prog_11_method_32_code
def yX9_crafts : MethodName := ⟨RX9, "crafts", "(II)I"⟩
abbrev cX9_may : ByteArray := prog_11_method_33_code
def yX9_may : MethodName := ⟨RX9, "may", "(II)I"⟩
abbrev cX9_beside : ByteArray := prog_11_method_34_code
def yX9_beside : MethodName := ⟨RX9, "beside", "(II)I"⟩
abbrev cX9_postOf : ByteArray := prog_11_method_35_code
def yX9_postOf : MethodName := ⟨RX9, "postOf", "(I)I"⟩
abbrev cX9_put : ByteArray := prog_11_method_36_code
def yX9_put : MethodName := ⟨RX9, "put", "(II)I"⟩
abbrev cX9_filled : ByteArray := prog_11_method_37_code
def yX9_filled : MethodName := ⟨RX9, "filled", "()I"⟩
abbrev cX9_empties : ByteArray := prog_11_method_38_code
def yX9_empties : MethodName := ⟨RX9, "empties", "()V"⟩
abbrev cX9_sheet : ByteArray := prog_11_method_39_code
def yX9_sheet : MethodName := ⟨RX9, "sheet", "(IIII)I"⟩
abbrev cX9_good : ByteArray := prog_11_method_40_code
def yX9_good : MethodName := ⟨RX9, "good", "()I"⟩
abbrev cX9_worksOn : ByteArray := prog_11_method_41_code
def yX9_worksOn : MethodName := ⟨RX9, "worksOn", "(II)V"⟩
abbrev cX9_passes : ByteArray := prog_11_method_42_code
def yX9_passes : MethodName := ⟨RX9, "passes", "()V"⟩
abbrev cX9_day : ByteArray := prog_11_method_43_code
def yX9_day : MethodName := ⟨RX9, "day", "()I"⟩
abbrev cX9_who : ByteArray := prog_11_method_44_code
def yX9_who : MethodName := ⟨RX9, "who", "(II)I"⟩
abbrev cX9_judge : ByteArray := prog_11_method_45_code
def yX9_judge : MethodName := ⟨RX9, "judge", "(I)I"⟩
abbrev cX9_broken : ByteArray := prog_11_method_46_code
def yX9_broken : MethodName := ⟨RX9, "broken", "()I"⟩
abbrev cX9_works : ByteArray := prog_11_method_47_code
def yX9_works : MethodName := ⟨RX9, "works", "(I)I"⟩
abbrev cX9_indexOf : ByteArray := prog_11_method_48_code
def yX9_indexOf : MethodName := ⟨RX9, "indexOf", "(III)I"⟩
abbrev cX9_gain : ByteArray := prog_11_method_49_code
def yX9_gain : MethodName := ⟨RX9, "gain", "(II)I"⟩
abbrev cX9_layers : ByteArray := prog_11_method_50_code
def yX9_layers : MethodName := ⟨RX9, "layers", "(I)V"⟩
abbrev cX9_asksToday : ByteArray := prog_11_method_51_code
def yX9_asksToday : MethodName := ⟨RX9, "asksToday", "()V"⟩
abbrev cX9_bests : ByteArray := prog_11_method_52_code
def yX9_bests : MethodName := ⟨RX9, "bests", "(Z)I"⟩
abbrev cX9_entersBest : ByteArray := prog_11_method_53_code
def yX9_entersBest : MethodName := ⟨RX9, "entersBest", "()V"⟩
abbrev cX9_best : ByteArray := prog_11_method_54_code
def yX9_best : MethodName := ⟨RX9, "best", "()I"⟩
abbrev cX9_fills : ByteArray := prog_11_method_55_code
def yX9_fills : MethodName := ⟨RX9, "fills", "()I"⟩
abbrev cX9_fill : ByteArray := prog_11_method_56_code
def yX9_fill : MethodName := ⟨RX9, "fill", "()I"⟩
abbrev cX9_ill : ByteArray := prog_11_method_57_code
def yX9_ill : MethodName := ⟨RX9, "ill", "(I)I"⟩
abbrev cX9_moreIf : ByteArray := prog_11_method_58_code
def yX9_moreIf : MethodName := ⟨RX9, "moreIf", "(I)I"⟩
abbrev cX9_free : ByteArray := prog_11_method_59_code
def yX9_free : MethodName := ⟨RX9, "free", "(I)I"⟩
abbrev cX9_worth : ByteArray := prog_11_method_60_code
def yX9_worth : MethodName := ⟨RX9, "worth", "()I"⟩
abbrev cX9_none : ByteArray := prog_11_method_61_code
def yX9_none : MethodName := ⟨RX9, "none", "()I"⟩
abbrev cX9_can : ByteArray := prog_11_method_62_code
def yX9_can : MethodName := ⟨RX9, "can", "(I)I"⟩
abbrev cX9_breaksAt : ByteArray := prog_11_method_63_code
def yX9_breaksAt : MethodName := ⟨RX9, "breaksAt", "(III)I"⟩
abbrev cX9_isAble : ByteArray := prog_11_method_64_code
def yX9_isAble : MethodName := ⟨RX9, "isAble", "(II)Z"⟩
abbrev cX9_priced : ByteArray := prog_11_method_65_code
def yX9_priced : MethodName := ⟨RX9, "priced", "(IIII)I"⟩
abbrev cX9_pricedLayer : ByteArray := prog_11_method_66_code
def yX9_pricedLayer : MethodName := ⟨RX9, "pricedLayer", "(I)V"⟩
abbrev cX9_breaking : ByteArray := prog_11_method_67_code
def yX9_breaking : MethodName := ⟨RX9, "breaking", "(I)I"⟩
abbrev cX9_few : ByteArray := prog_11_method_68_code
def yX9_few : MethodName := ⟨RX9, "few", "(I)I"⟩
abbrev cX9_till : ByteArray := prog_11_method_69_code
def yX9_till : MethodName := ⟨RX9, "till", "(II)I"⟩
abbrev cX9_setsLaw : ByteArray := prog_11_method_70_code
def yX9_setsLaw : MethodName := ⟨RX9, "setsLaw", "(II)V"⟩
abbrev cX9_mayAll : ByteArray := prog_11_method_71_code
def yX9_mayAll : MethodName := ⟨RX9, "mayAll", "(I)Z"⟩
abbrev cX9_law : ByteArray := prog_11_method_72_code
def yX9_law : MethodName := ⟨RX9, "law", "(II)I"⟩
abbrev cX9_price : ByteArray := prog_11_method_73_code
def yX9_price : MethodName := ⟨RX9, "price", "(I)I"⟩
abbrev cX9_written : ByteArray := prog_11_method_74_code
def yX9_written : MethodName := ⟨RX9, "written", "()I"⟩
abbrev cX9_isFew : ByteArray := prog_11_method_75_code
def yX9_isFew : MethodName := ⟨RX9, "isFew", "()Z"⟩
abbrev cX9_lists : ByteArray := prog_11_method_76_code
def yX9_lists : MethodName := ⟨RX9, "lists", "(II)V"⟩
abbrev cX9_listsAll : ByteArray := prog_11_method_77_code
def yX9_listsAll : MethodName := ⟨RX9, "listsAll", "()V"⟩
abbrev cX9_satBeside : ByteArray := prog_11_method_78_code
def yX9_satBeside : MethodName := ⟨RX9, "satBeside", "([IIIII)Z"⟩
abbrev cX9_follows : ByteArray := prog_11_method_79_code
def yX9_follows : MethodName := ⟨RX9, "follows", "([III)Z"⟩
abbrev cX9_leadsAll : ByteArray := prog_11_method_80_code
def yX9_leadsAll : MethodName := ⟨RX9, "leadsAll", "()V"⟩
abbrev cX9_goesForEver : ByteArray := prog_11_method_81_code
def yX9_goesForEver : MethodName := ⟨RX9, "goesForEver", "()I"⟩
abbrev cX9_ever : ByteArray := prog_11_method_82_code
def yX9_ever : MethodName := ⟨RX9, "ever", "()I"⟩
abbrev cX9_reaches : ByteArray := prog_11_method_83_code
def yX9_reaches : MethodName := ⟨RX9, "reaches", "(I)V"⟩
abbrev cX9_nextRound : ByteArray := prog_11_method_84_code
def yX9_nextRound : MethodName := ⟨RX9, "nextRound", "(I)I"⟩
abbrev cX9_entersList : ByteArray := prog_11_method_85_code
def yX9_entersList : MethodName := ⟨RX9, "entersList", "(I)V"⟩
abbrev cX9_round : ByteArray := prog_11_method_86_code
def yX9_round : MethodName := ⟨RX9, "round", "()I"⟩
abbrev cX9_lasts : ByteArray := prog_11_method_87_code
def yX9_lasts : MethodName := ⟨RX9, "lasts", "()I"⟩
abbrev cX9_lessonDoes : ByteArray := prog_11_method_88_code
def yX9_lessonDoes : MethodName := ⟨RX9, "lessonDoes", "(I)Z"⟩
abbrev cX9_isLesson : ByteArray := prog_11_method_89_code
def yX9_isLesson : MethodName := ⟨RX9, "isLesson", "(I)Z"⟩
abbrev cX9_entersLesson : ByteArray := prog_11_method_90_code
def yX9_entersLesson : MethodName := ⟨RX9, "entersLesson", "(I)V"⟩
abbrev cX9_lessons : ByteArray := prog_11_method_91_code
def yX9_lessons : MethodName := ⟨RX9, "lessons", "()I"⟩
abbrev cX9_brings : ByteArray := prog_11_method_92_code
def yX9_brings : MethodName := ⟨RX9, "brings", "(III)V"⟩
abbrev cX9_most : ByteArray := prog_11_method_93_code
def yX9_most : MethodName := ⟨RX9, "most", "(I)I"⟩
abbrev cX9_wasEver : ByteArray := prog_11_method_94_code
def yX9_wasEver : MethodName := ⟨RX9, "wasEver", "()Z"⟩
abbrev cX9_freshens : ByteArray := prog_11_method_95_code
def yX9_freshens : MethodName := ⟨RX9, "freshens", "(IIII)V"⟩
abbrev cX9_fresh : ByteArray := prog_11_method_96_code
def yX9_fresh : MethodName := ⟨RX9, "fresh", "()I"⟩
abbrev cX9_zigzag : ByteArray := prog_11_method_97_code
def yX9_zigzag : MethodName := ⟨RX9, "zigzag", "(III)I"⟩
abbrev cX9_byKind : ByteArray := prog_11_method_98_code
def yX9_byKind : MethodName := ⟨RX9, "byKind", "(II)I"⟩
abbrev cX9_go : ByteArray := prog_11_method_99_code
def yX9_go : MethodName := ⟨RX9, "go", "(II)I"⟩
abbrev cX9_meets : ByteArray := prog_11_method_100_code
def yX9_meets : MethodName := ⟨RX9, "meets", "(I)V"⟩
abbrev cX9_meetsNobody : ByteArray := prog_11_method_101_code
def yX9_meetsNobody : MethodName := ⟨RX9, "meetsNobody", "()V"⟩
abbrev cX9_haveAllMet : ByteArray := prog_11_method_102_code
def yX9_haveAllMet : MethodName := ⟨RX9, "haveAllMet", "(I)Z"⟩
abbrev cX9_met : ByteArray := prog_11_method_103_code
def yX9_met : MethodName := ⟨RX9, "met", "(I)I"⟩
abbrev cX9_all : ByteArray := prog_11_method_104_code
def yX9_all : MethodName := ⟨RX9, "all", "()I"⟩
abbrev cX9_soon : ByteArray := prog_11_method_105_code
def yX9_soon : MethodName := ⟨RX9, "soon", "(I)I"⟩
abbrev cX9_often : ByteArray := prog_11_method_106_code
def yX9_often : MethodName := ⟨RX9, "often", "(II)I"⟩
abbrev cX9_alternate : ByteArray := prog_11_method_107_code
def yX9_alternate : MethodName := ⟨RX9, "alternate", "(I)I"⟩
abbrev cX9_wereAt : ByteArray := prog_11_method_108_code
def yX9_wereAt : MethodName := ⟨RX9, "wereAt", "(I)I"⟩
abbrev cX9_chairs : ByteArray := prog_11_method_109_code
def yX9_chairs : MethodName := ⟨RX9, "chairs", "(I)I"⟩
abbrev cX9_areSame : ByteArray := prog_11_method_110_code
def yX9_areSame : MethodName := ⟨RX9, "areSame", "(II)Z"⟩
abbrev cX9_unlike : ByteArray := prog_11_method_111_code
def yX9_unlike : MethodName := ⟨RX9, "unlike", "()I"⟩
abbrev cX9_lays : ByteArray := prog_11_method_112_code
def yX9_lays : MethodName := ⟨RX9, "lays", "([III)V"⟩
abbrev cX9_takesBack : ByteArray := prog_11_method_113_code
def yX9_takesBack : MethodName := ⟨RX9, "takesBack", "([III)V"⟩
abbrev cX9_keep : ByteArray := prog_11_method_114_code
def yX9_keep : MethodName := ⟨RX9, "keep", "(I)Z"⟩
abbrev cX9_again : ByteArray := prog_11_method_115_code
def yX9_again : MethodName := ⟨RX9, "again", "(I)Z"⟩
abbrev cX9_count : ByteArray := prog_11_method_116_code
def yX9_count : MethodName := ⟨RX9, "count", "(I)I"⟩
abbrev cX9_init : ByteArray := prog_11_method_117_code
def yX9_init : MethodName := ⟨RX9, "<init>", "()V"⟩
abbrev cX9_row : ByteArray := prog_11_method_118_code
def yX9_row : MethodName := ⟨RX9, "row", "(I)I"⟩
def RJx145de : String := "java/io/Serializable"
def TJx145de : u_T := fun k => match k with
  | _ => ("", "", "", false)
def tyJx145de : Nat → FieldType := fun k => match k with
  | _ => .int
abbrev wsJx145de0 : List Cond := u_ws RJx145de TJx145de 0
theorem nmJx145de : ∀ a, a < 0 → ∀ b, b < 0 → a ≠ b → (TJx145de a).2.1 ≠ (TJx145de b).2.1 := by decide +kernel
theorem tyJx145de_ok : ∀ k, k < 0 → parseFieldDescriptor (TJx145de k).2.2.1 = some (tyJx145de k) := by decide +kernel
def RJ6 : String := "java/lang/Integer"
def TJ6 : u_T := fun k => match k with
  | _ => ("", "", "", false)
def tyJ6 : Nat → FieldType := fun k => match k with
  | _ => .int
abbrev wsJ60 : List Cond := u_ws RJ6 TJ6 0
theorem nmJ6 : ∀ a, a < 0 → ∀ b, b < 0 → a ≠ b → (TJ6 a).2.1 ≠ (TJ6 b).2.1 := by decide +kernel
theorem tyJ6_ok : ∀ k, k < 0 → parseFieldDescriptor (TJ6 k).2.2.1 = some (tyJ6 k) := by decide +kernel
abbrev cJ6_bitCount_0f7a4 : ByteArray := prog_14_method_49_code
def yJ6_bitCount_0f7a4 : MethodName := ⟨RJ6, "bitCount", "(I)I"⟩
def RJ13 : String := "java/lang/Long"
def TJ13 : u_T := fun k => match k with
  | _ => ("", "", "", false)
def tyJ13 : Nat → FieldType := fun k => match k with
  | _ => .int
abbrev wsJ130 : List Cond := u_ws RJ13 TJ13 0
theorem nmJ13 : ∀ a, a < 0 → ∀ b, b < 0 → a ≠ b → (TJ13 a).2.1 ≠ (TJ13 b).2.1 := by decide +kernel
theorem tyJ13_ok : ∀ k, k < 0 → parseFieldDescriptor (TJ13 k).2.2.1 = some (tyJ13 k) := by decide +kernel
abbrev cJ13_bitCount_95d88 : ByteArray := prog_15_method_50_code
def yJ13_bitCount_95d88 : MethodName := ⟨RJ13, "bitCount", "(J)I"⟩
def RJ9 : String := "java/lang/Math"
def TJ9 : u_T := fun k => match k with
  | _ => ("", "", "", false)
def tyJ9 : Nat → FieldType := fun k => match k with
  | _ => .int
abbrev wsJ90 : List Cond := u_ws RJ9 TJ9 0
theorem nmJ9 : ∀ a, a < 0 → ∀ b, b < 0 → a ≠ b → (TJ9 a).2.1 ≠ (TJ9 b).2.1 := by decide +kernel
theorem tyJ9_ok : ∀ k, k < 0 → parseFieldDescriptor (TJ9 k).2.2.1 = some (tyJ9 k) := by decide +kernel
abbrev cJ9_max_7cf53 : ByteArray := prog_16_method_65_code
def yJ9_max_7cf53 : MethodName := ⟨RJ9, "max", "(II)I"⟩
abbrev cJ9_min_7cf53 : ByteArray := prog_16_method_69_code
def yJ9_min_7cf53 : MethodName := ⟨RJ9, "min", "(II)I"⟩
def RJ10 : String := "java/lang/System"
def TJ10 : u_T := fun k => match k with
  | _ => ("", "", "", false)
def tyJ10 : Nat → FieldType := fun k => match k with
  | _ => .int
abbrev wsJ100 : List Cond := u_ws RJ10 TJ10 0
theorem nmJ10 : ∀ a, a < 0 → ∀ b, b < 0 → a ≠ b → (TJ10 a).2.1 ≠ (TJ10 b).2.1 := by decide +kernel
theorem tyJ10_ok : ∀ k, k < 0 → parseFieldDescriptor (TJ10 k).2.2.1 = some (tyJ10 k) := by decide +kernel
def RJ7 : String := "java/util/Arrays"
def TJ7 : u_T := fun k => match k with
  | _ => ("", "", "", false)
def tyJ7 : Nat → FieldType := fun k => match k with
  | _ => .int
abbrev wsJ70 : List Cond := u_ws RJ7 TJ7 0
theorem nmJ7 : ∀ a, a < 0 → ∀ b, b < 0 → a ≠ b → (TJ7 a).2.1 ≠ (TJ7 b).2.1 := by decide +kernel
theorem tyJ7_ok : ∀ k, k < 0 → parseFieldDescriptor (TJ7 k).2.2.1 = some (tyJ7 k) := by decide +kernel
abbrev cJ7_fill_53178 : ByteArray := prog_20_method_103_code
def yJ7_fill_53178 : MethodName := ⟨RJ7, "fill", "([II)V"⟩
def RL : String := "NotWhereYesterdayLaw"
abbrev cL_row : ByteArray := method_3_code
def yL_row : MethodName := ⟨RL, "row", "(LNotWhereYesterday;I[J)I"⟩
abbrev cL_law : ByteArray := code
def yL_law : MethodName := ⟨RL, "law", "([I)Z"⟩
abbrev vwCl : List vw_C := [(RX0, TX0, 12), (RX1, TX1, 7), (RX2, TX2, 4), (RX3, TX3, 2), (RX4, TX4, 20), (RX5, TX5, 4), (RX6, TX6, 9), (RX7, TX7, 3), (RX8, TX8, 13), (RX9, TX9, 66)]
