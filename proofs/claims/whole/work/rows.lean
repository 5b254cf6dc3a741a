section
-- ===== PART A: goes FIRST, ahead of the names: the tables' words, and 'selects' of the private methods out of them =====
/-- a private method of a class that the tables say can be made, by its rows of tables_1 -/
def lw_okq (q : MethodName × Nat) : Prop := (q.1.cls ≠ "java/lang/invoke/MethodHandle" ∧ q.1.cls ≠ "java/lang/invoke/VarHandle") ∧ Cond.instantiable q.1.cls q.2 ∈ tables_1 ∧ Cond.privateMethod q.1 ∈ tables_1 ∧ Cond.instanceMethod q.1 ∈ tables_1
theorem lw_p0 : lw_okq (⟨"HeardSecond$Trial", "beginCase", "()V"⟩, 12) := ⟨⟨by decide +kernel, by decide +kernel⟩, List.mem_of_getElem? (i := 55) (by decide +kernel), List.mem_of_getElem? (i := 239) (by decide +kernel), List.mem_of_getElem? (i := 240) (by decide +kernel)⟩
theorem lw_p1 : lw_okq (⟨"HeardSecond$Bench", "sitsBeside", "(II)Z"⟩, 4) := ⟨⟨by decide +kernel, by decide +kernel⟩, List.mem_of_getElem? (i := 33) (by decide +kernel), List.mem_of_getElem? (i := 271) (by decide +kernel), List.mem_of_getElem? (i := 272) (by decide +kernel)⟩
theorem lw_p2 : lw_okq (⟨"HeardSecond$Outlook", "tableWords", "()V"⟩, 10) := ⟨⟨by decide +kernel, by decide +kernel⟩, List.mem_of_getElem? (i := 111) (by decide +kernel), List.mem_of_getElem? (i := 280) (by decide +kernel), List.mem_of_getElem? (i := 281) (by decide +kernel)⟩
theorem lw_p3 : lw_okq (⟨"HeardSecond$Outlook", "stepsBy", "(III)I"⟩, 10) := ⟨⟨by decide +kernel, by decide +kernel⟩, List.mem_of_getElem? (i := 111) (by decide +kernel), List.mem_of_getElem? (i := 298) (by decide +kernel), List.mem_of_getElem? (i := 299) (by decide +kernel)⟩
theorem lw_p4 : lw_okq (⟨"HeardSecond$Trial", "keepSilence", "(LHeardSecond$Bench;)V"⟩, 12) := ⟨⟨by decide +kernel, by decide +kernel⟩, List.mem_of_getElem? (i := 55) (by decide +kernel), List.mem_of_getElem? (i := 335) (by decide +kernel), List.mem_of_getElem? (i := 336) (by decide +kernel)⟩
theorem lw_p5 : lw_okq (⟨"HeardSecond$Trial", "endCase", "(I)V"⟩, 12) := ⟨⟨by decide +kernel, by decide +kernel⟩, List.mem_of_getElem? (i := 55) (by decide +kernel), List.mem_of_getElem? (i := 340) (by decide +kernel), List.mem_of_getElem? (i := 341) (by decide +kernel)⟩
theorem lw_p6 : lw_okq (⟨"HeardSecond$Trial", "speak", "(LHeardSecond$Bench;I)V"⟩, 12) := ⟨⟨by decide +kernel, by decide +kernel⟩, List.mem_of_getElem? (i := 55) (by decide +kernel), List.mem_of_getElem? (i := 344) (by decide +kernel), List.mem_of_getElem? (i := 345) (by decide +kernel)⟩
theorem lw_p7 : lw_okq (⟨"HeardSecond$Outlook", "worthOfEnd", "(I)I"⟩, 10) := ⟨⟨by decide +kernel, by decide +kernel⟩, List.mem_of_getElem? (i := 111) (by decide +kernel), List.mem_of_getElem? (i := 372) (by decide +kernel), List.mem_of_getElem? (i := 373) (by decide +kernel)⟩
theorem lw_p8 : lw_okq (⟨"HeardSecond$Outlook", "weighBreath", "(I)V"⟩, 10) := ⟨⟨by decide +kernel, by decide +kernel⟩, List.mem_of_getElem? (i := 111) (by decide +kernel), List.mem_of_getElem? (i := 377) (by decide +kernel), List.mem_of_getElem? (i := 378) (by decide +kernel)⟩
theorem lw_p9 : lw_okq (⟨"HeardSecond$Outlook", "bestByWord", "(II)I"⟩, 10) := ⟨⟨by decide +kernel, by decide +kernel⟩, List.mem_of_getElem? (i := 111) (by decide +kernel), List.mem_of_getElem? (i := 381) (by decide +kernel), List.mem_of_getElem? (i := 382) (by decide +kernel)⟩
theorem lw_p10 : lw_okq (⟨"HeardSecond$Outlook", "isTurnOf", "(III)Z"⟩, 10) := ⟨⟨by decide +kernel, by decide +kernel⟩, List.mem_of_getElem? (i := 111) (by decide +kernel), List.mem_of_getElem? (i := 385) (by decide +kernel), List.mem_of_getElem? (i := 386) (by decide +kernel)⟩
theorem lw_p11 : lw_okq (⟨"HeardSecond$Outlook", "worthBehind", "(II)I"⟩, 10) := ⟨⟨by decide +kernel, by decide +kernel⟩, List.mem_of_getElem? (i := 111) (by decide +kernel), List.mem_of_getElem? (i := 389) (by decide +kernel), List.mem_of_getElem? (i := 390) (by decide +kernel)⟩
theorem lw_p12 : lw_okq (⟨"HeardSecond$Outlook", "canBeWord", "(III)Z"⟩, 10) := ⟨⟨by decide +kernel, by decide +kernel⟩, List.mem_of_getElem? (i := 111) (by decide +kernel), List.mem_of_getElem? (i := 438) (by decide +kernel), List.mem_of_getElem? (i := 439) (by decide +kernel)⟩
theorem lw_p13 : lw_okq (⟨"HeardSecond$Outlook", "fillEndings", "()V"⟩, 10) := ⟨⟨by decide +kernel, by decide +kernel⟩, List.mem_of_getElem? (i := 111) (by decide +kernel), List.mem_of_getElem? (i := 460) (by decide +kernel), List.mem_of_getElem? (i := 461) (by decide +kernel)⟩
theorem lw_p14 : lw_okq (⟨"HeardSecond$Outlook", "mostLeft", "(I)I"⟩, 10) := ⟨⟨by decide +kernel, by decide +kernel⟩, List.mem_of_getElem? (i := 111) (by decide +kernel), List.mem_of_getElem? (i := 464) (by decide +kernel), List.mem_of_getElem? (i := 465) (by decide +kernel)⟩
theorem lw_p15 : lw_okq (⟨"HeardSecond", "runSessions", "(II)I"⟩, 8) := ⟨⟨by decide +kernel, by decide +kernel⟩, List.mem_of_getElem? (i := 9) (by decide +kernel), List.mem_of_getElem? (i := 477) (by decide +kernel), List.mem_of_getElem? (i := 478) (by decide +kernel)⟩
def lw_privs_1 : List (MethodName × Nat) := [(⟨"HeardSecond$Trial", "beginCase", "()V"⟩, 12), (⟨"HeardSecond$Bench", "sitsBeside", "(II)Z"⟩, 4), (⟨"HeardSecond$Outlook", "tableWords", "()V"⟩, 10), (⟨"HeardSecond$Outlook", "stepsBy", "(III)I"⟩, 10), (⟨"HeardSecond$Trial", "keepSilence", "(LHeardSecond$Bench;)V"⟩, 12), (⟨"HeardSecond$Trial", "endCase", "(I)V"⟩, 12), (⟨"HeardSecond$Trial", "speak", "(LHeardSecond$Bench;I)V"⟩, 12), (⟨"HeardSecond$Outlook", "worthOfEnd", "(I)I"⟩, 10), (⟨"HeardSecond$Outlook", "weighBreath", "(I)V"⟩, 10), (⟨"HeardSecond$Outlook", "bestByWord", "(II)I"⟩, 10), (⟨"HeardSecond$Outlook", "isTurnOf", "(III)Z"⟩, 10), (⟨"HeardSecond$Outlook", "worthBehind", "(II)I"⟩, 10), (⟨"HeardSecond$Outlook", "canBeWord", "(III)Z"⟩, 10), (⟨"HeardSecond$Outlook", "fillEndings", "()V"⟩, 10), (⟨"HeardSecond$Outlook", "mostLeft", "(I)I"⟩, 10), (⟨"HeardSecond", "runSessions", "(II)I"⟩, 8)]
theorem lw_r1 : ∀ q ∈ lw_privs_1, lw_okq q := List.forall_mem_cons.mpr ⟨lw_p0, List.forall_mem_cons.mpr ⟨lw_p1, List.forall_mem_cons.mpr ⟨lw_p2, List.forall_mem_cons.mpr ⟨lw_p3, List.forall_mem_cons.mpr ⟨lw_p4, List.forall_mem_cons.mpr ⟨lw_p5, List.forall_mem_cons.mpr ⟨lw_p6, List.forall_mem_cons.mpr ⟨lw_p7, List.forall_mem_cons.mpr ⟨lw_p8, List.forall_mem_cons.mpr ⟨lw_p9, List.forall_mem_cons.mpr ⟨lw_p10, List.forall_mem_cons.mpr ⟨lw_p11, List.forall_mem_cons.mpr ⟨lw_p12, List.forall_mem_cons.mpr ⟨lw_p13, List.forall_mem_cons.mpr ⟨lw_p14, List.forall_mem_cons.mpr ⟨lw_p15, fun _ h => absurd h List.not_mem_nil⟩⟩⟩⟩⟩⟩⟩⟩⟩⟩⟩⟩⟩⟩⟩⟩
theorem lw_p16 : lw_okq (⟨"HeardSecondModel", "faultOf", "()I"⟩, 35) := ⟨⟨by decide +kernel, by decide +kernel⟩, List.mem_of_getElem? (i := 514) (by decide +kernel), List.mem_of_getElem? (i := 642) (by decide +kernel), List.mem_of_getElem? (i := 643) (by decide +kernel)⟩
theorem lw_p17 : lw_okq (⟨"HeardSecondModel", "go", "(I)Z"⟩, 35) := ⟨⟨by decide +kernel, by decide +kernel⟩, List.mem_of_getElem? (i := 514) (by decide +kernel), List.mem_of_getElem? (i := 646) (by decide +kernel), List.mem_of_getElem? (i := 647) (by decide +kernel)⟩
theorem lw_p18 : lw_okq (⟨"HeardSecondModel", "lacks", "()Z"⟩, 35) := ⟨⟨by decide +kernel, by decide +kernel⟩, List.mem_of_getElem? (i := 514) (by decide +kernel), List.mem_of_getElem? (i := 662) (by decide +kernel), List.mem_of_getElem? (i := 663) (by decide +kernel)⟩
theorem lw_p19 : lw_okq (⟨"HeardSecondModel", "goesBy", "(I)I"⟩, 35) := ⟨⟨by decide +kernel, by decide +kernel⟩, List.mem_of_getElem? (i := 514) (by decide +kernel), List.mem_of_getElem? (i := 666) (by decide +kernel), List.mem_of_getElem? (i := 667) (by decide +kernel)⟩
theorem lw_p20 : lw_okq (⟨"HeardSecondModel", "counting", "(I)I"⟩, 35) := ⟨⟨by decide +kernel, by decide +kernel⟩, List.mem_of_getElem? (i := 514) (by decide +kernel), List.mem_of_getElem? (i := 670) (by decide +kernel), List.mem_of_getElem? (i := 671) (by decide +kernel)⟩
theorem lw_p21 : lw_okq (⟨"HeardSecondModel", "counts", "(II)Z"⟩, 35) := ⟨⟨by decide +kernel, by decide +kernel⟩, List.mem_of_getElem? (i := 514) (by decide +kernel), List.mem_of_getElem? (i := 674) (by decide +kernel), List.mem_of_getElem? (i := 675) (by decide +kernel)⟩
theorem lw_p22 : lw_okq (⟨"HeardSecondModel", "behind", "(II)I"⟩, 35) := ⟨⟨by decide +kernel, by decide +kernel⟩, List.mem_of_getElem? (i := 514) (by decide +kernel), List.mem_of_getElem? (i := 681) (by decide +kernel), List.mem_of_getElem? (i := 682) (by decide +kernel)⟩
theorem lw_p23 : lw_okq (⟨"HeardSecondModel", "ends", "()V"⟩, 35) := ⟨⟨by decide +kernel, by decide +kernel⟩, List.mem_of_getElem? (i := 514) (by decide +kernel), List.mem_of_getElem? (i := 685) (by decide +kernel), List.mem_of_getElem? (i := 686) (by decide +kernel)⟩
theorem lw_p24 : lw_okq (⟨"HeardSecondModel", "isSeat", "(I)Z"⟩, 35) := ⟨⟨by decide +kernel, by decide +kernel⟩, List.mem_of_getElem? (i := 514) (by decide +kernel), List.mem_of_getElem? (i := 693) (by decide +kernel), List.mem_of_getElem? (i := 694) (by decide +kernel)⟩
theorem lw_p25 : lw_okq (⟨"HeardSecondModel", "tell", "(II)I"⟩, 35) := ⟨⟨by decide +kernel, by decide +kernel⟩, List.mem_of_getElem? (i := 514) (by decide +kernel), List.mem_of_getElem? (i := 697) (by decide +kernel), List.mem_of_getElem? (i := 698) (by decide +kernel)⟩
theorem lw_p26 : lw_okq (⟨"HeardSecondModel", "fewFrom", "(II)I"⟩, 35) := ⟨⟨by decide +kernel, by decide +kernel⟩, List.mem_of_getElem? (i := 514) (by decide +kernel), List.mem_of_getElem? (i := 701) (by decide +kernel), List.mem_of_getElem? (i := 702) (by decide +kernel)⟩
theorem lw_p27 : lw_okq (⟨"HeardSecondModel", "layFar", "(I)V"⟩, 35) := ⟨⟨by decide +kernel, by decide +kernel⟩, List.mem_of_getElem? (i := 514) (by decide +kernel), List.mem_of_getElem? (i := 705) (by decide +kernel), List.mem_of_getElem? (i := 706) (by decide +kernel)⟩
theorem lw_p28 : lw_okq (⟨"HeardSecondModel", "firstOf", "(I)I"⟩, 35) := ⟨⟨by decide +kernel, by decide +kernel⟩, List.mem_of_getElem? (i := 514) (by decide +kernel), List.mem_of_getElem? (i := 718) (by decide +kernel), List.mem_of_getElem? (i := 719) (by decide +kernel)⟩
theorem lw_p29 : lw_okq (⟨"HeardSecondModel", "playOf", "(II)I"⟩, 35) := ⟨⟨by decide +kernel, by decide +kernel⟩, List.mem_of_getElem? (i := 514) (by decide +kernel), List.mem_of_getElem? (i := 727) (by decide +kernel), List.mem_of_getElem? (i := 728) (by decide +kernel)⟩
theorem lw_p30 : lw_okq (⟨"HeardSecondModel", "layPlay", "(I)I"⟩, 35) := ⟨⟨by decide +kernel, by decide +kernel⟩, List.mem_of_getElem? (i := 514) (by decide +kernel), List.mem_of_getElem? (i := 731) (by decide +kernel), List.mem_of_getElem? (i := 732) (by decide +kernel)⟩
theorem lw_p31 : lw_okq (⟨"HeardSecondModel", "worthAtEnd", "(I)I"⟩, 35) := ⟨⟨by decide +kernel, by decide +kernel⟩, List.mem_of_getElem? (i := 514) (by decide +kernel), List.mem_of_getElem? (i := 735) (by decide +kernel), List.mem_of_getElem? (i := 736) (by decide +kernel)⟩
def lw_privs_2 : List (MethodName × Nat) := [(⟨"HeardSecondModel", "faultOf", "()I"⟩, 35), (⟨"HeardSecondModel", "go", "(I)Z"⟩, 35), (⟨"HeardSecondModel", "lacks", "()Z"⟩, 35), (⟨"HeardSecondModel", "goesBy", "(I)I"⟩, 35), (⟨"HeardSecondModel", "counting", "(I)I"⟩, 35), (⟨"HeardSecondModel", "counts", "(II)Z"⟩, 35), (⟨"HeardSecondModel", "behind", "(II)I"⟩, 35), (⟨"HeardSecondModel", "ends", "()V"⟩, 35), (⟨"HeardSecondModel", "isSeat", "(I)Z"⟩, 35), (⟨"HeardSecondModel", "tell", "(II)I"⟩, 35), (⟨"HeardSecondModel", "fewFrom", "(II)I"⟩, 35), (⟨"HeardSecondModel", "layFar", "(I)V"⟩, 35), (⟨"HeardSecondModel", "firstOf", "(I)I"⟩, 35), (⟨"HeardSecondModel", "playOf", "(II)I"⟩, 35), (⟨"HeardSecondModel", "layPlay", "(I)I"⟩, 35), (⟨"HeardSecondModel", "worthAtEnd", "(I)I"⟩, 35)]
theorem lw_r2 : ∀ q ∈ lw_privs_2, lw_okq q := List.forall_mem_cons.mpr ⟨lw_p16, List.forall_mem_cons.mpr ⟨lw_p17, List.forall_mem_cons.mpr ⟨lw_p18, List.forall_mem_cons.mpr ⟨lw_p19, List.forall_mem_cons.mpr ⟨lw_p20, List.forall_mem_cons.mpr ⟨lw_p21, List.forall_mem_cons.mpr ⟨lw_p22, List.forall_mem_cons.mpr ⟨lw_p23, List.forall_mem_cons.mpr ⟨lw_p24, List.forall_mem_cons.mpr ⟨lw_p25, List.forall_mem_cons.mpr ⟨lw_p26, List.forall_mem_cons.mpr ⟨lw_p27, List.forall_mem_cons.mpr ⟨lw_p28, List.forall_mem_cons.mpr ⟨lw_p29, List.forall_mem_cons.mpr ⟨lw_p30, List.forall_mem_cons.mpr ⟨lw_p31, fun _ h => absurd h List.not_mem_nil⟩⟩⟩⟩⟩⟩⟩⟩⟩⟩⟩⟩⟩⟩⟩⟩
theorem lw_p32 : lw_okq (⟨"HeardSecondModel", "rowsOf", "(II)I"⟩, 35) := ⟨⟨by decide +kernel, by decide +kernel⟩, List.mem_of_getElem? (i := 514) (by decide +kernel), List.mem_of_getElem? (i := 755) (by decide +kernel), List.mem_of_getElem? (i := 756) (by decide +kernel)⟩
theorem lw_p33 : lw_okq (⟨"HeardSecondModel", "layWays", "(I)V"⟩, 35) := ⟨⟨by decide +kernel, by decide +kernel⟩, List.mem_of_getElem? (i := 514) (by decide +kernel), List.mem_of_getElem? (i := 759) (by decide +kernel), List.mem_of_getElem? (i := 760) (by decide +kernel)⟩
theorem lw_p34 : lw_okq (⟨"HeardSecondModel", "isHeard", "(II)Z"⟩, 35) := ⟨⟨by decide +kernel, by decide +kernel⟩, List.mem_of_getElem? (i := 514) (by decide +kernel), List.mem_of_getElem? (i := 763) (by decide +kernel), List.mem_of_getElem? (i := 764) (by decide +kernel)⟩
theorem lw_p35 : lw_okq (⟨"HeardSecondModel", "whenOf", "()I"⟩, 35) := ⟨⟨by decide +kernel, by decide +kernel⟩, List.mem_of_getElem? (i := 514) (by decide +kernel), List.mem_of_getElem? (i := 771) (by decide +kernel), List.mem_of_getElem? (i := 772) (by decide +kernel)⟩
theorem lw_p36 : lw_okq (⟨"HeardSecondModel", "layAll", "([I)V"⟩, 35) := ⟨⟨by decide +kernel, by decide +kernel⟩, List.mem_of_getElem? (i := 514) (by decide +kernel), List.mem_of_getElem? (i := 779) (by decide +kernel), List.mem_of_getElem? (i := 780) (by decide +kernel)⟩
theorem lw_p37 : lw_okq (⟨"HeardSecondModel", "layBack", "([I)V"⟩, 35) := ⟨⟨by decide +kernel, by decide +kernel⟩, List.mem_of_getElem? (i := 514) (by decide +kernel), List.mem_of_getElem? (i := 787) (by decide +kernel), List.mem_of_getElem? (i := 788) (by decide +kernel)⟩
theorem lw_p38 : lw_okq (⟨"HeardSecondModel", "draw", "(I)I"⟩, 35) := ⟨⟨by decide +kernel, by decide +kernel⟩, List.mem_of_getElem? (i := 514) (by decide +kernel), List.mem_of_getElem? (i := 797) (by decide +kernel), List.mem_of_getElem? (i := 798) (by decide +kernel)⟩
theorem lw_p39 : lw_okq (⟨"HeardSecondModel", "countOf", "(I)I"⟩, 35) := ⟨⟨by decide +kernel, by decide +kernel⟩, List.mem_of_getElem? (i := 514) (by decide +kernel), List.mem_of_getElem? (i := 809) (by decide +kernel), List.mem_of_getElem? (i := 810) (by decide +kernel)⟩
theorem lw_p40 : lw_okq (⟨"HeardSecondModel", "say", "(J)V"⟩, 35) := ⟨⟨by decide +kernel, by decide +kernel⟩, List.mem_of_getElem? (i := 514) (by decide +kernel), List.mem_of_getElem? (i := 818) (by decide +kernel), List.mem_of_getElem? (i := 819) (by decide +kernel)⟩
theorem lw_p41 : lw_okq (⟨"HeardSecondModel", "sayCourt", "()V"⟩, 35) := ⟨⟨by decide +kernel, by decide +kernel⟩, List.mem_of_getElem? (i := 514) (by decide +kernel), List.mem_of_getElem? (i := 823) (by decide +kernel), List.mem_of_getElem? (i := 824) (by decide +kernel)⟩
def lw_privs_3 : List (MethodName × Nat) := [(⟨"HeardSecondModel", "rowsOf", "(II)I"⟩, 35), (⟨"HeardSecondModel", "layWays", "(I)V"⟩, 35), (⟨"HeardSecondModel", "isHeard", "(II)Z"⟩, 35), (⟨"HeardSecondModel", "whenOf", "()I"⟩, 35), (⟨"HeardSecondModel", "layAll", "([I)V"⟩, 35), (⟨"HeardSecondModel", "layBack", "([I)V"⟩, 35), (⟨"HeardSecondModel", "draw", "(I)I"⟩, 35), (⟨"HeardSecondModel", "countOf", "(I)I"⟩, 35), (⟨"HeardSecondModel", "say", "(J)V"⟩, 35), (⟨"HeardSecondModel", "sayCourt", "()V"⟩, 35)]
theorem lw_r3 : ∀ q ∈ lw_privs_3, lw_okq q := List.forall_mem_cons.mpr ⟨lw_p32, List.forall_mem_cons.mpr ⟨lw_p33, List.forall_mem_cons.mpr ⟨lw_p34, List.forall_mem_cons.mpr ⟨lw_p35, List.forall_mem_cons.mpr ⟨lw_p36, List.forall_mem_cons.mpr ⟨lw_p37, List.forall_mem_cons.mpr ⟨lw_p38, List.forall_mem_cons.mpr ⟨lw_p39, List.forall_mem_cons.mpr ⟨lw_p40, List.forall_mem_cons.mpr ⟨lw_p41, fun _ h => absurd h List.not_mem_nil⟩⟩⟩⟩⟩⟩⟩⟩⟩⟩
def lw_privs : List (MethodName × Nat) := lw_privs_1 ++ (lw_privs_2 ++ (lw_privs_3))
def lw_tbl : List Cond := k2_sels lw_privs ++ tables_1
theorem lw_privs_ok : ∀ q ∈ lw_privs, lw_okq q := by
  show ∀ q ∈ lw_privs_1 ++ (lw_privs_2 ++ (lw_privs_3)), lw_okq q
  exact List.forall_mem_append.mpr ⟨lw_r1, List.forall_mem_append.mpr ⟨lw_r2, lw_r3⟩⟩
-- ===== end of PART A; then your names; then what follows =====
/-! ===== BEGIN words of one list among another's, by their places ===== -/
theorem goodIn_r {big : List Cond} (ws : List Cond) (ps : List Nat) (hp : ws = ps.filterMap (fun i => big[i]?)) (h : ws.all goodWord = true) : GoodIn big ws := by
  intro w hw
  have h1 := List.all_eq_true.mp h w hw
  rw [hp] at hw
  obtain ⟨i, -, hi⟩ := List.mem_filterMap.mp hw
  have hm : w ∈ big := by first | exact List.mem_of_getElem? hi | exact List.getElem?_mem hi
  exact ⟨hm, good_of_word h1⟩
theorem goodIn_app {big a b : List Cond} (ha : GoodIn big a) (hb : GoodIn big b) : GoodIn big (a ++ b) := fun w h => (List.mem_append.mp h).elim (ha w) (hb w)
theorem goodIn_ca {big a b : List Cond} {c : Cond} (ha : GoodIn big (c :: a)) (hb : GoodIn big b) : GoodIn big (c :: (a ++ b)) := fun w h => (List.mem_cons.mp h).elim (fun e => ha w (List.mem_cons.mpr (Or.inl e))) (fun h => (List.mem_append.mp h).elim (fun h => ha w (List.mem_cons.mpr (Or.inr h))) (hb w))
theorem goodIn_sub {big ws : List Cond} (hm : ∀ w ∈ ws, w ∈ big) (h : ws.all goodWord = true) : GoodIn big ws := fun w hw => ⟨hm w hw, good_of_word (List.all_eq_true.mp h w hw)⟩
/-! ===== END ===== -/

/-! ===== BEGIN printed: names, fields, word lists, decode rows ===== -/
def RX0 : String := "HeardSecond$Bench"
def TX0 : u_T := fun k => match k with
  | 0 => ("HeardSecond$Bench", "kinds", "[I", true)
  | 1 => ("HeardSecond$Bench", "sides", "[I", true)
  | 2 => ("HeardSecond$Bench", "seats", "I", false)
  | _ => ("HeardSecond$Bench", "patience", "I", false)
def tyX0 : Nat → FieldType := fun k => match k with
  | 0 => .array .int
  | 1 => .array .int
  | 2 => .int
  | _ => .int
abbrev wsX00 : List Cond := u_ws RX0 TX0 4
theorem nmX0 : ∀ a, a < 4 → ∀ b, b < 4 → a ≠ b → (TX0 a).2.1 ≠ (TX0 b).2.1 := by decide +kernel
theorem tyX0_ok : ∀ k, k < 4 → parseFieldDescriptor (TX0 k).2.2.1 = some (tyX0 k) := by decide +kernel
abbrev cX0_init : ByteArray := prog_2_method_1_code
def yX0_init : MethodName := ⟨RX0, "<init>", "()V"⟩
abbrev cX0_sitDown : ByteArray := prog_2_method_2_code
def yX0_sitDown : MethodName := ⟨RX0, "sitDown", "(LHeardSecond$Page;)V"⟩
abbrev cX0_isSet : ByteArray := prog_2_method_3_code
def yX0_isSet : MethodName := ⟨RX0, "isSet", "()Z"⟩
abbrev cX0_has : ByteArray := prog_2_method_4_code
def yX0_has : MethodName := ⟨RX0, "has", "(I)Z"⟩
abbrev cX0_namesOnlySeats : ByteArray := prog_2_method_5_code
def yX0_namesOnlySeats : MethodName := ⟨RX0, "namesOnlySeats", "(I)Z"⟩
abbrev cX0_kindAt : ByteArray := prog_2_method_6_code
def yX0_kindAt : MethodName := ⟨RX0, "kindAt", "(I)I"⟩
abbrev cX0_sideAt : ByteArray := prog_2_method_7_code
def yX0_sideAt : MethodName := ⟨RX0, "sideAt", "(I)I"⟩
abbrev cX0_isOf : ByteArray := prog_2_method_8_code
def yX0_isOf : MethodName := ⟨RX0, "isOf", "(II)Z"⟩
abbrev cX0_counts : ByteArray := prog_2_method_9_code
def yX0_counts : MethodName := ⟨RX0, "counts", "(III)Z"⟩
abbrev cX0_sitsBeside : ByteArray := prog_2_method_10_code
def yX0_sitsBeside : MethodName := ⟨RX0, "sitsBeside", "(II)Z"⟩
abbrev cX0_believedBehind : ByteArray := prog_2_method_11_code
def yX0_believedBehind : MethodName := ⟨RX0, "believedBehind", "(II)I"⟩
abbrev cX0_lastBehind : ByteArray := prog_2_method_12_code
def yX0_lastBehind : MethodName := ⟨RX0, "lastBehind", "(I)I"⟩
def RX1 : String := "HeardSecond$Outlook"
def TX1 : u_T := fun k => match k with
  | 0 => ("HeardSecond$Outlook", "bench", "LHeardSecond$Bench;", true)
  | 1 => ("HeardSecond$Outlook", "now", "LHeardSecond$Trial;", true)
  | 2 => ("HeardSecond$Outlook", "lastThen", "[I", true)
  | 3 => ("HeardSecond$Outlook", "believedThen", "[I", true)
  | 4 => ("HeardSecond$Outlook", "steps", "[I", true)
  | 5 => ("HeardSecond$Outlook", "worths", "[I", true)
  | 6 => ("HeardSecond$Outlook", "earlierWorths", "[I", true)
  | 7 => ("HeardSecond$Outlook", "ways", "[I", true)
  | 8 => ("HeardSecond$Outlook", "endings", "[I", true)
  | _ => ("HeardSecond$Outlook", "left", "[I", true)
def tyX1 : Nat → FieldType := fun k => match k with
  | 0 => .object "HeardSecond$Bench"
  | 1 => .object "HeardSecond$Trial"
  | 2 => .array .int
  | 3 => .array .int
  | 4 => .array .int
  | 5 => .array .int
  | 6 => .array .int
  | 7 => .array .int
  | 8 => .array .int
  | _ => .array .int
abbrev wsX10 : List Cond := u_ws RX1 TX1 10
theorem nmX1 : ∀ a, a < 10 → ∀ b, b < 10 → a ≠ b → (TX1 a).2.1 ≠ (TX1 b).2.1 := by decide +kernel
theorem tyX1_ok : ∀ k, k < 10 → parseFieldDescriptor (TX1 k).2.2.1 = some (tyX1 k) := by decide +kernel
abbrev cX1_init : ByteArray := prog_3_method_1_code
def yX1_init : MethodName := ⟨RX1, "<init>", "(LHeardSecond$Bench;LHeardSecond$Trial;)V"⟩
abbrev cX1_tableWords : ByteArray := prog_3_method_2_code
def yX1_tableWords : MethodName := ⟨RX1, "tableWords", "()V"⟩
abbrev cX1_wordPlace : ByteArray := prog_3_method_3_code
def yX1_wordPlace : MethodName := ⟨RX1, "wordPlace", "(II)I"⟩
abbrev cX1_aimAt : ByteArray := prog_3_method_4_code
def yX1_aimAt : MethodName := ⟨RX1, "aimAt", "(I)V"⟩
abbrev cX1_fewestWords : ByteArray := prog_3_method_5_code
def yX1_fewestWords : MethodName := ⟨RX1, "fewestWords", "(I)I"⟩
abbrev cX1_firstSpeaker : ByteArray := prog_3_method_6_code
def yX1_firstSpeaker : MethodName := ⟨RX1, "firstSpeaker", "(I)I"⟩
abbrev cX1_stepsBy : ByteArray := prog_3_method_7_code
def yX1_stepsBy : MethodName := ⟨RX1, "stepsBy", "(III)I"⟩
abbrev cX1_weighReplies : ByteArray := prog_3_method_8_code
def yX1_weighReplies : MethodName := ⟨RX1, "weighReplies", "(I)V"⟩
abbrev cX1_bestWorth : ByteArray := prog_3_method_9_code
def yX1_bestWorth : MethodName := ⟨RX1, "bestWorth", "()I"⟩
abbrev cX1_bestOpening : ByteArray := prog_3_method_10_code
def yX1_bestOpening : MethodName := ⟨RX1, "bestOpening", "()I"⟩
abbrev cX1_weighBreath : ByteArray := prog_3_method_11_code
def yX1_weighBreath : MethodName := ⟨RX1, "weighBreath", "(I)V"⟩
abbrev cX1_bestByWord : ByteArray := prog_3_method_12_code
def yX1_bestByWord : MethodName := ⟨RX1, "bestByWord", "(II)I"⟩
abbrev cX1_better : ByteArray := prog_3_method_13_code
def yX1_better : MethodName := ⟨RX1, "better", "(III)I"⟩
abbrev cX1_isTurnOf : ByteArray := prog_3_method_14_code
def yX1_isTurnOf : MethodName := ⟨RX1, "isTurnOf", "(III)Z"⟩
abbrev cX1_worthBehind : ByteArray := prog_3_method_15_code
def yX1_worthBehind : MethodName := ⟨RX1, "worthBehind", "(II)I"⟩
abbrev cX1_worthOfEnd : ByteArray := prog_3_method_16_code
def yX1_worthOfEnd : MethodName := ⟨RX1, "worthOfEnd", "(I)I"⟩
abbrev cX1_worthPlace : ByteArray := prog_3_method_17_code
def yX1_worthPlace : MethodName := ⟨RX1, "worthPlace", "(II)I"⟩
abbrev cX1_fillWays : ByteArray := prog_3_method_18_code
def yX1_fillWays : MethodName := ⟨RX1, "fillWays", "(I)V"⟩
abbrev cX1_waysOf : ByteArray := prog_3_method_19_code
def yX1_waysOf : MethodName := ⟨RX1, "waysOf", "(I)I"⟩
abbrev cX1_lastsBehind : ByteArray := prog_3_method_20_code
def yX1_lastsBehind : MethodName := ⟨RX1, "lastsBehind", "(I)I"⟩
abbrev cX1_bestLook : ByteArray := prog_3_method_21_code
def yX1_bestLook : MethodName := ⟨RX1, "bestLook", "()I"⟩
abbrev cX1_fillEndings : ByteArray := prog_3_method_22_code
def yX1_fillEndings : MethodName := ⟨RX1, "fillEndings", "()V"⟩
abbrev cX1_mostLeft : ByteArray := prog_3_method_23_code
def yX1_mostLeft : MethodName := ⟨RX1, "mostLeft", "(I)I"⟩
abbrev cX1_canBeWord : ByteArray := prog_3_method_24_code
def yX1_canBeWord : MethodName := ⟨RX1, "canBeWord", "(III)Z"⟩
abbrev cX1_rowPlace : ByteArray := prog_3_method_25_code
def yX1_rowPlace : MethodName := ⟨RX1, "rowPlace", "(II)I"⟩
def RX2 : String := "HeardSecond$Page"
def TX2 : u_T := fun k => match k with
  | 0 => ("HeardSecond$Page", "codes", "[I", true)
  | _ => ("HeardSecond$Page", "length", "I", false)
def tyX2 : Nat → FieldType := fun k => match k with
  | 0 => .array .int
  | _ => .int
abbrev wsX20 : List Cond := u_ws RX2 TX2 2
theorem nmX2 : ∀ a, a < 2 → ∀ b, b < 2 → a ≠ b → (TX2 a).2.1 ≠ (TX2 b).2.1 := by decide +kernel
theorem tyX2_ok : ∀ k, k < 2 → parseFieldDescriptor (TX2 k).2.2.1 = some (tyX2 k) := by decide +kernel
abbrev cX2_init : ByteArray := prog_4_method_1_code
def yX2_init : MethodName := ⟨RX2, "<init>", "()V"⟩
abbrev cX2_append : ByteArray := prog_4_method_2_code
def yX2_append : MethodName := ⟨RX2, "append", "(I)V"⟩
abbrev cX2_wipe : ByteArray := prog_4_method_3_code
def yX2_wipe : MethodName := ⟨RX2, "wipe", "()V"⟩
abbrev cX2_codeAt : ByteArray := prog_4_method_4_code
def yX2_codeAt : MethodName := ⟨RX2, "codeAt", "(I)I"⟩
abbrev cX2_firstFault : ByteArray := prog_4_method_5_code
def yX2_firstFault : MethodName := ⟨RX2, "firstFault", "()I"⟩
abbrev cX2_isWhole : ByteArray := prog_4_method_6_code
def yX2_isWhole : MethodName := ⟨RX2, "isWhole", "()Z"⟩
abbrev cX2_dueBehind : ByteArray := prog_4_method_7_code
def yX2_dueBehind : MethodName := ⟨RX2, "dueBehind", "(III)I"⟩
abbrev cX2_dueBehindMark : ByteArray := prog_4_method_8_code
def yX2_dueBehindMark : MethodName := ⟨RX2, "dueBehindMark", "(II)I"⟩
abbrev cX2_kindOf : ByteArray := prog_4_method_9_code
def yX2_kindOf : MethodName := ⟨RX2, "kindOf", "(I)I"⟩
def RX3 : String := "HeardSecond$Trial"
def TX3 : u_T := fun k => match k with
  | 0 => ("HeardSecond$Trial", "last", "I", false)
  | 1 => ("HeardSecond$Trial", "believed", "I", false)
  | 2 => ("HeardSecond$Trial", "out", "I", false)
  | 3 => ("HeardSecond$Trial", "silence", "I", false)
  | 4 => ("HeardSecond$Trial", "ended", "I", false)
  | 5 => ("HeardSecond$Trial", "wonBy0", "I", false)
  | 6 => ("HeardSecond$Trial", "wonBy1", "I", false)
  | 7 => ("HeardSecond$Trial", "breaths", "I", false)
  | 8 => ("HeardSecond$Trial", "words", "[I", true)
  | 9 => ("HeardSecond$Trial", "told", "I", false)
  | 10 => ("HeardSecond$Trial", "toldWords", "[I", true)
  | _ => ("HeardSecond$Trial", "toldSeats", "[I", true)
def tyX3 : Nat → FieldType := fun k => match k with
  | 0 => .int
  | 1 => .int
  | 2 => .int
  | 3 => .int
  | 4 => .int
  | 5 => .int
  | 6 => .int
  | 7 => .int
  | 8 => .array .int
  | 9 => .int
  | 10 => .array .int
  | _ => .array .int
abbrev wsX30 : List Cond := u_ws RX3 TX3 12
theorem nmX3 : ∀ a, a < 12 → ∀ b, b < 12 → a ≠ b → (TX3 a).2.1 ≠ (TX3 b).2.1 := by decide +kernel
theorem tyX3_ok : ∀ k, k < 12 → parseFieldDescriptor (TX3 k).2.2.1 = some (tyX3 k) := by decide +kernel
abbrev cX3_init : ByteArray := prog_5_method_1_code
def yX3_init : MethodName := ⟨RX3, "<init>", "()V"⟩
abbrev cX3_beginAll : ByteArray := prog_5_method_2_code
def yX3_beginAll : MethodName := ⟨RX3, "beginAll", "()V"⟩
abbrev cX3_beginCase : ByteArray := prog_5_method_3_code
def yX3_beginCase : MethodName := ⟨RX3, "beginCase", "()V"⟩
abbrev cX3_takeFrom : ByteArray := prog_5_method_4_code
def yX3_takeFrom : MethodName := ⟨RX3, "takeFrom", "(LHeardSecond$Trial;)V"⟩
abbrev cX3_breathe : ByteArray := prog_5_method_5_code
def yX3_breathe : MethodName := ⟨RX3, "breathe", "(LHeardSecond$Bench;I)I"⟩
abbrev cX3_speak : ByteArray := prog_5_method_6_code
def yX3_speak : MethodName := ⟨RX3, "speak", "(LHeardSecond$Bench;I)V"⟩
abbrev cX3_keepSilence : ByteArray := prog_5_method_7_code
def yX3_keepSilence : MethodName := ⟨RX3, "keepSilence", "(LHeardSecond$Bench;)V"⟩
abbrev cX3_endCase : ByteArray := prog_5_method_8_code
def yX3_endCase : MethodName := ⟨RX3, "endCase", "(I)V"⟩
abbrev cX3_tell : ByteArray := prog_5_method_9_code
def yX3_tell : MethodName := ⟨RX3, "tell", "(II)V"⟩
abbrev cX3_allows : ByteArray := prog_5_method_10_code
def yX3_allows : MethodName := ⟨RX3, "allows", "(II)Z"⟩
def RX4 : String := "HeardSecond"
def TX4 : u_T := fun k => match k with
  | 0 => ("HeardSecond", "page", "LHeardSecond$Page;", true)
  | 1 => ("HeardSecond", "bench", "LHeardSecond$Bench;", true)
  | 2 => ("HeardSecond", "now", "LHeardSecond$Trial;", true)
  | 3 => ("HeardSecond", "kept", "LHeardSecond$Trial;", true)
  | 4 => ("HeardSecond", "trying", "LHeardSecond$Trial;", true)
  | 5 => ("HeardSecond", "outlook", "LHeardSecond$Outlook;", true)
  | 6 => ("HeardSecond", "imageKept", "Z", false)
  | _ => ("HeardSecond", "courtsRead", "I", false)
def tyX4 : Nat → FieldType := fun k => match k with
  | 0 => .object "HeardSecond$Page"
  | 1 => .object "HeardSecond$Bench"
  | 2 => .object "HeardSecond$Trial"
  | 3 => .object "HeardSecond$Trial"
  | 4 => .object "HeardSecond$Trial"
  | 5 => .object "HeardSecond$Outlook"
  | 6 => .boolean
  | _ => .int
abbrev wsX40 : List Cond := u_ws RX4 TX4 8
theorem nmX4 : ∀ a, a < 8 → ∀ b, b < 8 → a ≠ b → (TX4 a).2.1 ≠ (TX4 b).2.1 := by decide +kernel
theorem tyX4_ok : ∀ k, k < 8 → parseFieldDescriptor (TX4 k).2.2.1 = some (tyX4 k) := by decide +kernel
abbrev cX4_init : ByteArray := prog_1_method_1_code
def yX4_init : MethodName := ⟨RX4, "<init>", "()V"⟩
abbrev cX4_letter : ByteArray := prog_1_method_2_code
def yX4_letter : MethodName := ⟨RX4, "letter", "(I)I"⟩
abbrev cX4_blank : ByteArray := prog_1_method_3_code
def yX4_blank : MethodName := ⟨RX4, "blank", "()I"⟩
abbrev cX4_fault : ByteArray := prog_1_method_4_code
def yX4_fault : MethodName := ⟨RX4, "fault", "()I"⟩
abbrev cX4_court : ByteArray := prog_1_method_5_code
def yX4_court : MethodName := ⟨RX4, "court", "()I"⟩
abbrev cX4_seat : ByteArray := prog_1_method_6_code
def yX4_seat : MethodName := ⟨RX4, "seat", "(II)I"⟩
abbrev cX4_as : ByteArray := prog_1_method_7_code
def yX4_as : MethodName := ⟨RX4, "as", "(II)I"⟩
abbrev cX4_breath : ByteArray := prog_1_method_8_code
def yX4_breath : MethodName := ⟨RX4, "breath", "(I)I"⟩
abbrev cX4_get : ByteArray := prog_1_method_9_code
def yX4_get : MethodName := ⟨RX4, "get", "(II)I"⟩
abbrev cX4_play : ByteArray := prog_1_method_10_code
def yX4_play : MethodName := ⟨RX4, "play", "(II)I"⟩
abbrev cX4_hear : ByteArray := prog_1_method_11_code
def yX4_hear : MethodName := ⟨RX4, "hear", "(II)I"⟩
abbrev cX4_forget : ByteArray := prog_1_method_12_code
def yX4_forget : MethodName := ⟨RX4, "forget", "()I"⟩
abbrev cX4_rows : ByteArray := prog_1_method_13_code
def yX4_rows : MethodName := ⟨RX4, "rows", "(II)I"⟩
abbrev cX4_when : ByteArray := prog_1_method_14_code
def yX4_when : MethodName := ⟨RX4, "when", "()I"⟩
abbrev cX4_sessions : ByteArray := prog_1_method_15_code
def yX4_sessions : MethodName := ⟨RX4, "sessions", "(III)I"⟩
abbrev cX4_image : ByteArray := prog_1_method_16_code
def yX4_image : MethodName := ⟨RX4, "image", "()I"⟩
abbrev cX4_restore : ByteArray := prog_1_method_17_code
def yX4_restore : MethodName := ⟨RX4, "restore", "()I"⟩
abbrev cX4_count : ByteArray := prog_1_method_18_code
def yX4_count : MethodName := ⟨RX4, "count", "(I)I"⟩
abbrev cX4_digest : ByteArray := prog_1_method_19_code
def yX4_digest : MethodName := ⟨RX4, "digest", "()J"⟩
abbrev cX4_runSessions : ByteArray := prog_1_method_20_code
def yX4_runSessions : MethodName := ⟨RX4, "runSessions", "(II)I"⟩
abbrev cX4_nextSeed : ByteArray := prog_1_method_21_code
def yX4_nextSeed : MethodName := ⟨RX4, "nextSeed", "(J)J"⟩
abbrev cX4_isIn : ByteArray := prog_1_method_22_code
def yX4_isIn : MethodName := ⟨RX4, "isIn", "(II)Z"⟩
abbrev cX4_at : ByteArray := prog_1_method_23_code
def yX4_at : MethodName := ⟨RX4, "at", "([II)I"⟩
abbrev cX4_put : ByteArray := prog_1_method_24_code
def yX4_put : MethodName := ⟨RX4, "put", "([III)V"⟩
abbrev cX4_fill : ByteArray := prog_1_method_25_code
def yX4_fill : MethodName := ⟨RX4, "fill", "([II)V"⟩
abbrev cX4_copy : ByteArray := prog_1_method_26_code
def yX4_copy : MethodName := ⟨RX4, "copy", "([I[I)V"⟩
def RX5 : String := "HeardSecondModel"
def TX5 : u_T := fun k => match k with
  | 0 => ("HeardSecondModel", "page", "[I", true)
  | 1 => ("HeardSecondModel", "pageMany", "I", false)
  | 2 => ("HeardSecondModel", "read", "[I", true)
  | 3 => ("HeardSecondModel", "readMany", "I", false)
  | 4 => ("HeardSecondModel", "readPatience", "I", false)
  | 5 => ("HeardSecondModel", "state", "I", false)
  | 6 => ("HeardSecondModel", "seats", "I", false)
  | 7 => ("HeardSecondModel", "patience", "I", false)
  | 8 => ("HeardSecondModel", "now", "I", false)
  | 9 => ("HeardSecondModel", "out", "I", false)
  | 10 => ("HeardSecondModel", "silence", "I", false)
  | 11 => ("HeardSecondModel", "cases", "I", false)
  | 12 => ("HeardSecondModel", "wonBy0", "I", false)
  | 13 => ("HeardSecondModel", "wonBy1", "I", false)
  | 14 => ("HeardSecondModel", "breaths", "I", false)
  | 15 => ("HeardSecondModel", "courtsRead", "I", false)
  | 16 => ("HeardSecondModel", "rows", "[I", true)
  | 17 => ("HeardSecondModel", "far", "[I", true)
  | 18 => ("HeardSecondModel", "worth", "[I", true)
  | 19 => ("HeardSecondModel", "ahead", "[I", true)
  | 20 => ("HeardSecondModel", "playFirst", "I", false)
  | 21 => ("HeardSecondModel", "heardMany", "I", false)
  | 22 => ("HeardSecondModel", "heards", "[I", true)
  | 23 => ("HeardSecondModel", "ways", "[I", true)
  | 24 => ("HeardSecondModel", "onward", "[I", true)
  | 25 => ("HeardSecondModel", "parts", "[I", true)
  | 26 => ("HeardSecondModel", "keptRows", "[I", true)
  | 27 => ("HeardSecondModel", "keptNumbers", "[I", true)
  | 28 => ("HeardSecondModel", "keptHeards", "[I", true)
  | 29 => ("HeardSecondModel", "keptHeardMany", "I", false)
  | 30 => ("HeardSecondModel", "keptCourt", "I", false)
  | 31 => ("HeardSecondModel", "seedNow", "I", false)
  | 32 => ("HeardSecondModel", "savedRows", "[I", true)
  | 33 => ("HeardSecondModel", "savedNumbers", "[I", true)
  | _ => ("HeardSecondModel", "hash", "J", false)
def tyX5 : Nat → FieldType := fun k => match k with
  | 0 => .array .int
  | 1 => .int
  | 2 => .array .int
  | 3 => .int
  | 4 => .int
  | 5 => .int
  | 6 => .int
  | 7 => .int
  | 8 => .int
  | 9 => .int
  | 10 => .int
  | 11 => .int
  | 12 => .int
  | 13 => .int
  | 14 => .int
  | 15 => .int
  | 16 => .array .int
  | 17 => .array .int
  | 18 => .array .int
  | 19 => .array .int
  | 20 => .int
  | 21 => .int
  | 22 => .array .int
  | 23 => .array .int
  | 24 => .array .int
  | 25 => .array .int
  | 26 => .array .int
  | 27 => .array .int
  | 28 => .array .int
  | 29 => .int
  | 30 => .int
  | 31 => .int
  | 32 => .array .int
  | 33 => .array .int
  | _ => .long
abbrev wsX50 : List Cond := u_ws RX5 TX5 35
theorem nmX5 : ∀ a, a < 35 → ∀ b, b < 35 → a ≠ b → (TX5 a).2.1 ≠ (TX5 b).2.1 := by decide +kernel
theorem tyX5_ok : ∀ k, k < 35 → parseFieldDescriptor (TX5 k).2.2.1 = some (tyX5 k) := by decide +kernel
abbrev cX5_init : ByteArray := prog_7_method_1_code
def yX5_init : MethodName := ⟨RX5, "<init>", "()V"⟩
abbrev cX5_in : ByteArray := prog_7_method_2_code
def yX5_in : MethodName := ⟨RX5, "in", "(JJJ)Z"⟩
abbrev cX5_copy : ByteArray := prog_7_method_3_code
def yX5_copy : MethodName := ⟨RX5, "copy", "([I[I)V"⟩
abbrev cX5_letter : ByteArray := prog_7_method_4_code
def yX5_letter : MethodName := ⟨RX5, "letter", "(I)I"⟩
abbrev cX5_blank : ByteArray := prog_7_method_5_code
def yX5_blank : MethodName := ⟨RX5, "blank", "()I"⟩
abbrev cX5_kindBy : ByteArray := prog_7_method_6_code
def yX5_kindBy : MethodName := ⟨RX5, "kindBy", "(I)I"⟩
abbrev cX5_go : ByteArray := prog_7_method_7_code
def yX5_go : MethodName := ⟨RX5, "go", "(I)Z"⟩
abbrev cX5_faultOf : ByteArray := prog_7_method_8_code
def yX5_faultOf : MethodName := ⟨RX5, "faultOf", "()I"⟩
abbrev cX5_fault : ByteArray := prog_7_method_9_code
def yX5_fault : MethodName := ⟨RX5, "fault", "()I"⟩
abbrev cX5_court : ByteArray := prog_7_method_10_code
def yX5_court : MethodName := ⟨RX5, "court", "()I"⟩
abbrev cX5_lacks : ByteArray := prog_7_method_11_code
def yX5_lacks : MethodName := ⟨RX5, "lacks", "()Z"⟩
abbrev cX5_isSeat : ByteArray := prog_7_method_12_code
def yX5_isSeat : MethodName := ⟨RX5, "isSeat", "(I)Z"⟩
abbrev cX5_counts : ByteArray := prog_7_method_13_code
def yX5_counts : MethodName := ⟨RX5, "counts", "(II)Z"⟩
abbrev cX5_behind : ByteArray := prog_7_method_14_code
def yX5_behind : MethodName := ⟨RX5, "behind", "(II)I"⟩
abbrev cX5_ones : ByteArray := prog_7_method_15_code
def yX5_ones : MethodName := ⟨RX5, "ones", "(I)I"⟩
abbrev cX5_counting : ByteArray := prog_7_method_16_code
def yX5_counting : MethodName := ⟨RX5, "counting", "(I)I"⟩
abbrev cX5_ends : ByteArray := prog_7_method_17_code
def yX5_ends : MethodName := ⟨RX5, "ends", "()V"⟩
abbrev cX5_goesBy : ByteArray := prog_7_method_18_code
def yX5_goesBy : MethodName := ⟨RX5, "goesBy", "(I)I"⟩
abbrev cX5_breath : ByteArray := prog_7_method_19_code
def yX5_breath : MethodName := ⟨RX5, "breath", "(I)I"⟩
abbrev cX5_layFar : ByteArray := prog_7_method_20_code
def yX5_layFar : MethodName := ⟨RX5, "layFar", "(I)V"⟩
abbrev cX5_fewFrom : ByteArray := prog_7_method_21_code
def yX5_fewFrom : MethodName := ⟨RX5, "fewFrom", "(II)I"⟩
abbrev cX5_firstOf : ByteArray := prog_7_method_22_code
def yX5_firstOf : MethodName := ⟨RX5, "firstOf", "(I)I"⟩
abbrev cX5_tell : ByteArray := prog_7_method_23_code
def yX5_tell : MethodName := ⟨RX5, "tell", "(II)I"⟩
abbrev cX5_seat : ByteArray := prog_7_method_24_code
def yX5_seat : MethodName := ⟨RX5, "seat", "(II)I"⟩
abbrev cX5_as : ByteArray := prog_7_method_25_code
def yX5_as : MethodName := ⟨RX5, "as", "(II)I"⟩
abbrev cX5_get : ByteArray := prog_7_method_26_code
def yX5_get : MethodName := ⟨RX5, "get", "(II)I"⟩
abbrev cX5_worthAtEnd : ByteArray := prog_7_method_27_code
def yX5_worthAtEnd : MethodName := ⟨RX5, "worthAtEnd", "(I)I"⟩
abbrev cX5_layPlay : ByteArray := prog_7_method_28_code
def yX5_layPlay : MethodName := ⟨RX5, "layPlay", "(I)I"⟩
abbrev cX5_playOf : ByteArray := prog_7_method_29_code
def yX5_playOf : MethodName := ⟨RX5, "playOf", "(II)I"⟩
abbrev cX5_play : ByteArray := prog_7_method_30_code
def yX5_play : MethodName := ⟨RX5, "play", "(II)I"⟩
abbrev cX5_hear : ByteArray := prog_7_method_31_code
def yX5_hear : MethodName := ⟨RX5, "hear", "(II)I"⟩
abbrev cX5_forget : ByteArray := prog_7_method_32_code
def yX5_forget : MethodName := ⟨RX5, "forget", "()I"⟩
abbrev cX5_isHeard : ByteArray := prog_7_method_33_code
def yX5_isHeard : MethodName := ⟨RX5, "isHeard", "(II)Z"⟩
abbrev cX5_layWays : ByteArray := prog_7_method_34_code
def yX5_layWays : MethodName := ⟨RX5, "layWays", "(I)V"⟩
abbrev cX5_rowsOf : ByteArray := prog_7_method_35_code
def yX5_rowsOf : MethodName := ⟨RX5, "rowsOf", "(II)I"⟩
abbrev cX5_rows : ByteArray := prog_7_method_36_code
def yX5_rows : MethodName := ⟨RX5, "rows", "(II)I"⟩
abbrev cX5_whenOf : ByteArray := prog_7_method_37_code
def yX5_whenOf : MethodName := ⟨RX5, "whenOf", "()I"⟩
abbrev cX5_when : ByteArray := prog_7_method_38_code
def yX5_when : MethodName := ⟨RX5, "when", "()I"⟩
abbrev cX5_layAll : ByteArray := prog_7_method_39_code
def yX5_layAll : MethodName := ⟨RX5, "layAll", "([I)V"⟩
abbrev cX5_layBack : ByteArray := prog_7_method_40_code
def yX5_layBack : MethodName := ⟨RX5, "layBack", "([I)V"⟩
abbrev cX5_image : ByteArray := prog_7_method_41_code
def yX5_image : MethodName := ⟨RX5, "image", "()I"⟩
abbrev cX5_restore : ByteArray := prog_7_method_42_code
def yX5_restore : MethodName := ⟨RX5, "restore", "()I"⟩
abbrev cX5_draw : ByteArray := prog_7_method_43_code
def yX5_draw : MethodName := ⟨RX5, "draw", "(I)I"⟩
abbrev cX5_sessions : ByteArray := prog_7_method_44_code
def yX5_sessions : MethodName := ⟨RX5, "sessions", "(III)I"⟩
abbrev cX5_countOf : ByteArray := prog_7_method_45_code
def yX5_countOf : MethodName := ⟨RX5, "countOf", "(I)I"⟩
abbrev cX5_count : ByteArray := prog_7_method_46_code
def yX5_count : MethodName := ⟨RX5, "count", "(I)I"⟩
abbrev cX5_say : ByteArray := prog_7_method_47_code
def yX5_say : MethodName := ⟨RX5, "say", "(J)V"⟩
abbrev cX5_sayCourt : ByteArray := prog_7_method_48_code
def yX5_sayCourt : MethodName := ⟨RX5, "sayCourt", "()V"⟩
abbrev cX5_digest : ByteArray := prog_7_method_49_code
def yX5_digest : MethodName := ⟨RX5, "digest", "()J"⟩
def RJ9 : String := "java/lang/Math"
def TJ9 : u_T := fun k => match k with
  | _ => ("", "", "", false)
def tyJ9 : Nat → FieldType := fun k => match k with
  | _ => .int
abbrev wsJ90 : List Cond := u_ws RJ9 TJ9 0
theorem nmJ9 : ∀ a, a < 0 → ∀ b, b < 0 → a ≠ b → (TJ9 a).2.1 ≠ (TJ9 b).2.1 := by decide +kernel
theorem tyJ9_ok : ∀ k, k < 0 → parseFieldDescriptor (TJ9 k).2.2.1 = some (tyJ9 k) := by decide +kernel
abbrev cJ9_max_7cf53 : ByteArray := prog_8_method_65_code
def yJ9_max_7cf53 : MethodName := ⟨RJ9, "max", "(II)I"⟩
abbrev cJ9_min_7cf53 : ByteArray := prog_8_method_69_code
def yJ9_min_7cf53 : MethodName := ⟨RJ9, "min", "(II)I"⟩
def RL : String := "HeardSecondLaw"
abbrev cL_law : ByteArray := code
def yL_law : MethodName := ⟨RL, "law", "([I)Z"⟩
def wsX0_init : List Cond := .code yX0_init cX0_init 1 none :: ([.methodLink RX0 3 objectInit, .instanceMethod objectInit, .code objectInit ⟨#[0xb1]⟩ 1 none, .arrayClass .int, .fieldLink RX0 9 "HeardSecond$Bench" "kinds" "[I", .fieldLink RX0 15 "HeardSecond$Bench" "sides" "[I"] ++ wsX00)
def wsX4_at : List Cond := .code yX4_at cX4_at 2 (some .int) :: ([])
def wsX2_codeAt : List Cond := .code yX2_codeAt cX2_codeAt 2 (some .int) :: ([.fieldLink RX2 15 "HeardSecond$Page" "length" "I", .fieldLink RX2 9 "HeardSecond$Page" "codes" "[I", .static yX4_at, .initialized RX4, .code yX4_at cX4_at 2 (some .int)] ++ wsX20)
def wsX2_kindOf : List Cond := .code yX2_kindOf cX2_kindOf 1 (some .int) :: ([])
def wsX4_put : List Cond := .code yX4_put cX4_put 3 none :: ([])
def wsX0_sitDown : List Cond := .code yX0_sitDown cX0_sitDown 3 none :: ([.methodLink RX0 24 Lib.Math.min.name, .static Lib.Math.min.name, .initialized "java/lang/Math", .code Lib.Math.min.name Lib.Math.min.code 2 (some .int), .fieldLink RX0 30 "HeardSecond$Bench" "seats" "I", .fieldLink RX0 9 "HeardSecond$Bench" "kinds" "[I", .fieldLink RX0 15 "HeardSecond$Bench" "sides" "[I", .fieldLink RX0 44 "HeardSecond$Bench" "patience" "I", .methodLink RX0 33 yX2_codeAt, .instanceMethod yX2_codeAt, .selects RX2 yX2_codeAt yX2_codeAt, .initialized RX2, .code yX2_codeAt cX2_codeAt 2 (some .int), .fieldLink RX2 15 "HeardSecond$Page" "length" "I", .fieldLink RX2 9 "HeardSecond$Page" "codes" "[I", .static yX4_at, .initialized RX4, .code yX4_at cX4_at 2 (some .int), .methodLink RX0 37 yX2_kindOf, .static yX2_kindOf, .code yX2_kindOf cX2_kindOf 1 (some .int), .static yX4_put, .code yX4_put cX4_put 3 none] ++ wsX20 ++ wsX00)
def wsX0_isSet : List Cond := .code yX0_isSet cX0_isSet 1 (some .boolean) :: ([.fieldLink RX0 30 "HeardSecond$Bench" "seats" "I"] ++ wsX00)
def wsX0_has : List Cond := .code yX0_has cX0_has 2 (some .boolean) :: ([.fieldLink RX0 30 "HeardSecond$Bench" "seats" "I"] ++ wsX00)
def wsX0_namesOnlySeats : List Cond := .code yX0_namesOnlySeats cX0_namesOnlySeats 2 (some .boolean) :: ([.fieldLink RX0 30 "HeardSecond$Bench" "seats" "I"] ++ wsX00)
def wsX0_kindAt : List Cond := .code yX0_kindAt cX0_kindAt 2 (some .int) :: ([.fieldLink RX0 30 "HeardSecond$Bench" "seats" "I", .fieldLink RX0 9 "HeardSecond$Bench" "kinds" "[I"] ++ wsX00)
def wsX0_sideAt : List Cond := .code yX0_sideAt cX0_sideAt 2 (some .int) :: ([.fieldLink RX0 30 "HeardSecond$Bench" "seats" "I", .fieldLink RX0 15 "HeardSecond$Bench" "sides" "[I"] ++ wsX00)
def wsX0_isOf : List Cond := .code yX0_isOf cX0_isOf 4 (some .boolean) :: ([.methodLink RX0 47 yX0_kindAt, .instanceMethod yX0_kindAt, .selects RX0 yX0_kindAt yX0_kindAt, .initialized RX0, .code yX0_kindAt cX0_kindAt 2 (some .int), .fieldLink RX0 30 "HeardSecond$Bench" "seats" "I", .fieldLink RX0 9 "HeardSecond$Bench" "kinds" "[I", .methodLink RX0 50 yX0_has, .instanceMethod yX0_has, .selects RX0 yX0_has yX0_has, .code yX0_has cX0_has 2 (some .boolean)] ++ wsX00)
def wsX4_isIn : List Cond := .code yX4_isIn cX4_isIn 2 (some .boolean) :: ([])
def wsX0_sitsBeside : List Cond := .code yX0_sitsBeside cX0_sitsBeside 3 (some .boolean) :: ([.fieldLink RX0 30 "HeardSecond$Bench" "seats" "I"] ++ wsX00)
def wsX0_counts : List Cond := .code yX0_counts cX0_counts 5 (some .boolean) :: ([.methodLink RX0 47 yX0_kindAt, .instanceMethod yX0_kindAt, .selects RX0 yX0_kindAt yX0_kindAt, .initialized RX0, .code yX0_kindAt cX0_kindAt 2 (some .int), .fieldLink RX0 30 "HeardSecond$Bench" "seats" "I", .fieldLink RX0 9 "HeardSecond$Bench" "kinds" "[I", .static yX4_isIn, .initialized RX4, .code yX4_isIn cX4_isIn 2 (some .boolean), .methodLink RX0 58 yX0_sitsBeside, .instanceMethod yX0_sitsBeside, .selects RX0 yX0_sitsBeside yX0_sitsBeside, .code yX0_sitsBeside cX0_sitsBeside 3 (some .boolean)] ++ wsX00)
def wsX0_believedBehind : List Cond := .code yX0_believedBehind cX0_believedBehind 4 (some .int) :: ([.fieldLink RX0 30 "HeardSecond$Bench" "seats" "I", .methodLink RX0 47 yX0_kindAt, .instanceMethod yX0_kindAt, .selects RX0 yX0_kindAt yX0_kindAt, .initialized RX0, .code yX0_kindAt cX0_kindAt 2 (some .int), .fieldLink RX0 9 "HeardSecond$Bench" "kinds" "[I"] ++ wsX00)
def wsX0_lastBehind : List Cond := .code yX0_lastBehind cX0_lastBehind 2 (some .int) :: ([.methodLink RX0 47 yX0_kindAt, .instanceMethod yX0_kindAt, .selects RX0 yX0_kindAt yX0_kindAt, .initialized RX0, .code yX0_kindAt cX0_kindAt 2 (some .int), .fieldLink RX0 30 "HeardSecond$Bench" "seats" "I", .fieldLink RX0 9 "HeardSecond$Bench" "kinds" "[I"] ++ wsX00)
def wsX1_init : List Cond := .code yX1_init cX1_init 3 none :: ([.methodLink RX1 3 objectInit, .instanceMethod objectInit, .code objectInit ⟨#[0xb1]⟩ 1 none, .arrayClass .int, .fieldLink RX1 9 "HeardSecond$Outlook" "lastThen" "[I", .fieldLink RX1 15 "HeardSecond$Outlook" "believedThen" "[I", .fieldLink RX1 18 "HeardSecond$Outlook" "steps" "[I", .fieldLink RX1 21 "HeardSecond$Outlook" "worths" "[I", .fieldLink RX1 24 "HeardSecond$Outlook" "earlierWorths" "[I", .fieldLink RX1 27 "HeardSecond$Outlook" "ways" "[I", .fieldLink RX1 30 "HeardSecond$Outlook" "endings" "[I", .fieldLink RX1 33 "HeardSecond$Outlook" "left" "[I", .fieldLink RX1 36 "HeardSecond$Outlook" "bench" "LHeardSecond$Bench;", .fieldLink RX1 40 "HeardSecond$Outlook" "now" "LHeardSecond$Trial;"] ++ wsX10)
def wsX1_wordPlace : List Cond := .code yX1_wordPlace cX1_wordPlace 2 (some .int) :: ([])
def wsX1_tableWords_r1 : List Cond := [Cond.fieldLink RX1 36 "HeardSecond$Outlook" "bench" "LHeardSecond$Bench;", Cond.fieldLink RX1 40 "HeardSecond$Outlook" "now" "LHeardSecond$Trial;", Cond.fieldLink RX1 9 "HeardSecond$Outlook" "lastThen" "[I", Cond.fieldLink RX1 15 "HeardSecond$Outlook" "believedThen" "[I", Cond.methodLink RX1 50 yX0_counts, Cond.instanceMethod yX0_counts, Cond.selects RX0 yX0_counts yX0_counts, Cond.initialized RX0, Cond.code yX0_counts cX0_counts 5 (some .boolean), Cond.methodLink RX0 47 yX0_kindAt, Cond.instanceMethod yX0_kindAt, Cond.selects RX0 yX0_kindAt yX0_kindAt, Cond.code yX0_kindAt cX0_kindAt 2 (some .int), Cond.fieldLink RX0 30 "HeardSecond$Bench" "seats" "I", Cond.fieldLink RX0 9 "HeardSecond$Bench" "kinds" "[I", Cond.static yX4_isIn, Cond.initialized RX4, Cond.code yX4_isIn cX4_isIn 2 (some .boolean), Cond.methodLink RX0 58 yX0_sitsBeside, Cond.instanceMethod yX0_sitsBeside, Cond.selects RX0 yX0_sitsBeside yX0_sitsBeside, Cond.code yX0_sitsBeside cX0_sitsBeside 3 (some .boolean), Cond.methodLink RX1 56 yX1_wordPlace, Cond.static yX1_wordPlace]
def wsX1_tableWords_r2 : List Cond := [Cond.initialized RX1, Cond.code yX1_wordPlace cX1_wordPlace 2 (some .int), Cond.methodLink RX1 60 yX0_lastBehind, Cond.instanceMethod yX0_lastBehind, Cond.selects RX0 yX0_lastBehind yX0_lastBehind, Cond.code yX0_lastBehind cX0_lastBehind 2 (some .int), Cond.static yX4_put, Cond.code yX4_put cX4_put 3 none, Cond.methodLink RX1 68 yX0_believedBehind, Cond.instanceMethod yX0_believedBehind, Cond.selects RX0 yX0_believedBehind yX0_believedBehind, Cond.code yX0_believedBehind cX0_believedBehind 4 (some .int)]
def wsX1_tableWords : List Cond := .code yX1_tableWords cX1_tableWords 4 none :: ((wsX1_tableWords_r1 ++ wsX1_tableWords_r2) ++ wsX10 ++ wsX30 ++ wsX00)
def wsX4_fill : List Cond := .code yX4_fill cX4_fill 3 none :: ([])
def wsX1_stepsBy : List Cond := .code yX1_stepsBy cX1_stepsBy 5 (some .int) :: ([.fieldLink RX1 9 "HeardSecond$Outlook" "lastThen" "[I", .fieldLink RX1 15 "HeardSecond$Outlook" "believedThen" "[I", .fieldLink RX1 18 "HeardSecond$Outlook" "steps" "[I", .methodLink RX1 82 Lib.Math.min.name, .static Lib.Math.min.name, .initialized "java/lang/Math", .code Lib.Math.min.name Lib.Math.min.code 2 (some .int), .methodLink RX1 56 yX1_wordPlace, .static yX1_wordPlace, .initialized RX1, .code yX1_wordPlace cX1_wordPlace 2 (some .int), .static yX4_at, .initialized RX4, .code yX4_at cX4_at 2 (some .int)] ++ wsX10)
def wsX1_aimAt_r1 : List Cond := [Cond.fieldLink RX1 18 "HeardSecond$Outlook" "steps" "[I", Cond.methodLink RX1 82 Lib.Math.min.name, Cond.static Lib.Math.min.name, Cond.initialized "java/lang/Math", Cond.code Lib.Math.min.name Lib.Math.min.code 2 (some .int), Cond.methodLink RX1 71 yX1_tableWords, Cond.instanceMethod yX1_tableWords, Cond.selects RX1 yX1_tableWords yX1_tableWords, Cond.initialized RX1, Cond.code yX1_tableWords cX1_tableWords 4 none, Cond.fieldLink RX1 36 "HeardSecond$Outlook" "bench" "LHeardSecond$Bench;", Cond.fieldLink RX1 40 "HeardSecond$Outlook" "now" "LHeardSecond$Trial;", Cond.fieldLink RX1 9 "HeardSecond$Outlook" "lastThen" "[I", Cond.fieldLink RX1 15 "HeardSecond$Outlook" "believedThen" "[I", Cond.methodLink RX1 50 yX0_counts, Cond.instanceMethod yX0_counts, Cond.selects RX0 yX0_counts yX0_counts, Cond.initialized RX0, Cond.code yX0_counts cX0_counts 5 (some .boolean), Cond.methodLink RX0 47 yX0_kindAt, Cond.instanceMethod yX0_kindAt, Cond.selects RX0 yX0_kindAt yX0_kindAt, Cond.code yX0_kindAt cX0_kindAt 2 (some .int), Cond.fieldLink RX0 30 "HeardSecond$Bench" "seats" "I"]
def wsX1_aimAt_r2 : List Cond := [Cond.fieldLink RX0 9 "HeardSecond$Bench" "kinds" "[I", Cond.static yX4_isIn, Cond.initialized RX4, Cond.code yX4_isIn cX4_isIn 2 (some .boolean), Cond.methodLink RX0 58 yX0_sitsBeside, Cond.instanceMethod yX0_sitsBeside, Cond.selects RX0 yX0_sitsBeside yX0_sitsBeside, Cond.code yX0_sitsBeside cX0_sitsBeside 3 (some .boolean), Cond.methodLink RX1 56 yX1_wordPlace, Cond.static yX1_wordPlace, Cond.code yX1_wordPlace cX1_wordPlace 2 (some .int), Cond.methodLink RX1 60 yX0_lastBehind, Cond.instanceMethod yX0_lastBehind, Cond.selects RX0 yX0_lastBehind yX0_lastBehind, Cond.code yX0_lastBehind cX0_lastBehind 2 (some .int), Cond.static yX4_put, Cond.code yX4_put cX4_put 3 none, Cond.methodLink RX1 68 yX0_believedBehind, Cond.instanceMethod yX0_believedBehind, Cond.selects RX0 yX0_believedBehind yX0_believedBehind, Cond.code yX0_believedBehind cX0_believedBehind 4 (some .int), Cond.static yX4_fill, Cond.code yX4_fill cX4_fill 3 none, Cond.methodLink RX1 78 yX1_stepsBy]
def wsX1_aimAt_r3 : List Cond := [Cond.instanceMethod yX1_stepsBy, Cond.selects RX1 yX1_stepsBy yX1_stepsBy, Cond.code yX1_stepsBy cX1_stepsBy 5 (some .int), Cond.static yX4_at, Cond.code yX4_at cX4_at 2 (some .int)]
def wsX1_aimAt : List Cond := .code yX1_aimAt cX1_aimAt 6 none :: ((wsX1_aimAt_r1 ++ (wsX1_aimAt_r2 ++ wsX1_aimAt_r3)) ++ wsX10 ++ wsX30 ++ wsX00)
def wsX1_fewestWords : List Cond := .code yX1_fewestWords cX1_fewestWords 3 (some .int) :: ([.fieldLink RX1 40 "HeardSecond$Outlook" "now" "LHeardSecond$Trial;", .fieldLink RX1 18 "HeardSecond$Outlook" "steps" "[I", .static yX4_at, .initialized RX4, .code yX4_at cX4_at 2 (some .int)] ++ wsX10 ++ wsX30)
def wsX1_firstSpeaker : List Cond := .code yX1_firstSpeaker cX1_firstSpeaker 4 (some .int) :: ([.fieldLink RX1 40 "HeardSecond$Outlook" "now" "LHeardSecond$Trial;", .methodLink RX1 97 yX1_fewestWords, .instanceMethod yX1_fewestWords, .selects RX1 yX1_fewestWords yX1_fewestWords, .initialized RX1, .code yX1_fewestWords cX1_fewestWords 3 (some .int), .fieldLink RX1 18 "HeardSecond$Outlook" "steps" "[I", .static yX4_at, .initialized RX4, .code yX4_at cX4_at 2 (some .int), .methodLink RX1 78 yX1_stepsBy, .instanceMethod yX1_stepsBy, .selects RX1 yX1_stepsBy yX1_stepsBy, .code yX1_stepsBy cX1_stepsBy 5 (some .int), .fieldLink RX1 9 "HeardSecond$Outlook" "lastThen" "[I", .fieldLink RX1 15 "HeardSecond$Outlook" "believedThen" "[I", .methodLink RX1 82 Lib.Math.min.name, .static Lib.Math.min.name, .initialized "java/lang/Math", .code Lib.Math.min.name Lib.Math.min.code 2 (some .int), .methodLink RX1 56 yX1_wordPlace, .static yX1_wordPlace, .code yX1_wordPlace cX1_wordPlace 2 (some .int)] ++ wsX10 ++ wsX30)
def wsX1_worthPlace : List Cond := .code yX1_worthPlace cX1_worthPlace 2 (some .int) :: ([])
def wsX1_worthOfEnd : List Cond := .code yX1_worthOfEnd cX1_worthOfEnd 2 (some .int) :: ([.fieldLink RX1 36 "HeardSecond$Outlook" "bench" "LHeardSecond$Bench;", .methodLink RX1 133 yX0_sideAt, .instanceMethod yX0_sideAt, .selects RX0 yX0_sideAt yX0_sideAt, .initialized RX0, .code yX0_sideAt cX0_sideAt 2 (some .int), .fieldLink RX0 30 "HeardSecond$Bench" "seats" "I", .fieldLink RX0 15 "HeardSecond$Bench" "sides" "[I"] ++ wsX10 ++ wsX00)
def wsX1_isTurnOf : List Cond := .code yX1_isTurnOf cX1_isTurnOf 4 (some .boolean) :: ([.fieldLink RX1 36 "HeardSecond$Outlook" "bench" "LHeardSecond$Bench;", .fieldLink RX1 9 "HeardSecond$Outlook" "lastThen" "[I", .methodLink RX1 133 yX0_sideAt, .instanceMethod yX0_sideAt, .selects RX0 yX0_sideAt yX0_sideAt, .initialized RX0, .code yX0_sideAt cX0_sideAt 2 (some .int), .fieldLink RX0 30 "HeardSecond$Bench" "seats" "I", .fieldLink RX0 15 "HeardSecond$Bench" "sides" "[I", .methodLink RX1 56 yX1_wordPlace, .static yX1_wordPlace, .initialized RX1, .code yX1_wordPlace cX1_wordPlace 2 (some .int), .static yX4_at, .initialized RX4, .code yX4_at cX4_at 2 (some .int)] ++ wsX10 ++ wsX00)
def wsX1_worthBehind : List Cond := .code yX1_worthBehind cX1_worthBehind 4 (some .int) :: ([.fieldLink RX1 21 "HeardSecond$Outlook" "worths" "[I", .fieldLink RX1 9 "HeardSecond$Outlook" "lastThen" "[I", .fieldLink RX1 15 "HeardSecond$Outlook" "believedThen" "[I", .methodLink RX1 56 yX1_wordPlace, .static yX1_wordPlace, .initialized RX1, .code yX1_wordPlace cX1_wordPlace 2 (some .int), .static yX4_at, .initialized RX4, .code yX4_at cX4_at 2 (some .int), .methodLink RX1 100 yX1_worthPlace, .static yX1_worthPlace, .code yX1_worthPlace cX1_worthPlace 2 (some .int)] ++ wsX10)
def wsX1_better : List Cond := .code yX1_better cX1_better 3 (some .int) :: ([.methodLink RX1 130 Lib.Math.max.name, .static Lib.Math.max.name, .initialized "java/lang/Math", .code Lib.Math.max.name Lib.Math.max.code 2 (some .int), .methodLink RX1 82 Lib.Math.min.name, .static Lib.Math.min.name, .code Lib.Math.min.name Lib.Math.min.code 2 (some .int)])
def wsX1_bestByWord_r1 : List Cond := [Cond.methodLink RX1 120 yX1_isTurnOf, Cond.instanceMethod yX1_isTurnOf, Cond.selects RX1 yX1_isTurnOf yX1_isTurnOf, Cond.initialized RX1, Cond.code yX1_isTurnOf cX1_isTurnOf 4 (some .boolean), Cond.fieldLink RX1 36 "HeardSecond$Outlook" "bench" "LHeardSecond$Bench;", Cond.fieldLink RX1 9 "HeardSecond$Outlook" "lastThen" "[I", Cond.methodLink RX1 133 yX0_sideAt, Cond.instanceMethod yX0_sideAt, Cond.selects RX0 yX0_sideAt yX0_sideAt, Cond.initialized RX0, Cond.code yX0_sideAt cX0_sideAt 2 (some .int), Cond.fieldLink RX0 30 "HeardSecond$Bench" "seats" "I", Cond.fieldLink RX0 15 "HeardSecond$Bench" "sides" "[I", Cond.methodLink RX1 56 yX1_wordPlace, Cond.static yX1_wordPlace, Cond.code yX1_wordPlace cX1_wordPlace 2 (some .int), Cond.static yX4_at, Cond.initialized RX4, Cond.code yX4_at cX4_at 2 (some .int), Cond.methodLink RX1 123 yX1_worthBehind, Cond.instanceMethod yX1_worthBehind, Cond.selects RX1 yX1_worthBehind yX1_worthBehind, Cond.code yX1_worthBehind cX1_worthBehind 4 (some .int)]
def wsX1_bestByWord_r2 : List Cond := [Cond.fieldLink RX1 21 "HeardSecond$Outlook" "worths" "[I", Cond.fieldLink RX1 15 "HeardSecond$Outlook" "believedThen" "[I", Cond.methodLink RX1 100 yX1_worthPlace, Cond.static yX1_worthPlace, Cond.code yX1_worthPlace cX1_worthPlace 2 (some .int), Cond.methodLink RX1 113 yX1_better, Cond.static yX1_better, Cond.code yX1_better cX1_better 3 (some .int), Cond.methodLink RX1 130 Lib.Math.max.name, Cond.static Lib.Math.max.name, Cond.initialized "java/lang/Math", Cond.code Lib.Math.max.name Lib.Math.max.code 2 (some .int), Cond.methodLink RX1 82 Lib.Math.min.name, Cond.static Lib.Math.min.name, Cond.code Lib.Math.min.name Lib.Math.min.code 2 (some .int)]
def wsX1_bestByWord : List Cond := .code yX1_bestByWord cX1_bestByWord 5 (some .int) :: ((wsX1_bestByWord_r1 ++ wsX1_bestByWord_r2) ++ wsX10 ++ wsX00)
def wsX4_copy : List Cond := .code yX4_copy cX4_copy 3 none :: ([.methodLink RX4 110 yX4_at, .static yX4_at, .initialized RX4, .code yX4_at cX4_at 2 (some .int)])
def wsX1_weighBreath_r1 : List Cond := [Cond.fieldLink RX1 24 "HeardSecond$Outlook" "earlierWorths" "[I", Cond.fieldLink RX1 21 "HeardSecond$Outlook" "worths" "[I", Cond.methodLink RX1 110 yX1_bestByWord, Cond.instanceMethod yX1_bestByWord, Cond.selects RX1 yX1_bestByWord yX1_bestByWord, Cond.initialized RX1, Cond.code yX1_bestByWord cX1_bestByWord 5 (some .int), Cond.methodLink RX1 120 yX1_isTurnOf, Cond.instanceMethod yX1_isTurnOf, Cond.selects RX1 yX1_isTurnOf yX1_isTurnOf, Cond.code yX1_isTurnOf cX1_isTurnOf 4 (some .boolean), Cond.fieldLink RX1 36 "HeardSecond$Outlook" "bench" "LHeardSecond$Bench;", Cond.fieldLink RX1 9 "HeardSecond$Outlook" "lastThen" "[I", Cond.methodLink RX1 133 yX0_sideAt, Cond.instanceMethod yX0_sideAt, Cond.selects RX0 yX0_sideAt yX0_sideAt, Cond.initialized RX0, Cond.code yX0_sideAt cX0_sideAt 2 (some .int), Cond.fieldLink RX0 30 "HeardSecond$Bench" "seats" "I", Cond.fieldLink RX0 15 "HeardSecond$Bench" "sides" "[I", Cond.methodLink RX1 56 yX1_wordPlace, Cond.static yX1_wordPlace, Cond.code yX1_wordPlace cX1_wordPlace 2 (some .int), Cond.static yX4_at]
def wsX1_weighBreath_r2 : List Cond := [Cond.initialized RX4, Cond.code yX4_at cX4_at 2 (some .int), Cond.methodLink RX1 123 yX1_worthBehind, Cond.instanceMethod yX1_worthBehind, Cond.selects RX1 yX1_worthBehind yX1_worthBehind, Cond.code yX1_worthBehind cX1_worthBehind 4 (some .int), Cond.fieldLink RX1 15 "HeardSecond$Outlook" "believedThen" "[I", Cond.methodLink RX1 100 yX1_worthPlace, Cond.static yX1_worthPlace, Cond.code yX1_worthPlace cX1_worthPlace 2 (some .int), Cond.methodLink RX1 113 yX1_better, Cond.static yX1_better, Cond.code yX1_better cX1_better 3 (some .int), Cond.methodLink RX1 130 Lib.Math.max.name, Cond.static Lib.Math.max.name, Cond.initialized "java/lang/Math", Cond.code Lib.Math.max.name Lib.Math.max.code 2 (some .int), Cond.methodLink RX1 82 Lib.Math.min.name, Cond.static Lib.Math.min.name, Cond.code Lib.Math.min.name Lib.Math.min.code 2 (some .int), Cond.static yX4_put, Cond.code yX4_put cX4_put 3 none, Cond.static yX4_copy, Cond.code yX4_copy cX4_copy 3 none]
def wsX1_weighBreath_r3 : List Cond := [Cond.methodLink RX4 110 yX4_at]
def wsX1_weighBreath : List Cond := .code yX1_weighBreath cX1_weighBreath 6 none :: ((wsX1_weighBreath_r1 ++ (wsX1_weighBreath_r2 ++ wsX1_weighBreath_r3)) ++ wsX10 ++ wsX00)
def wsX1_weighReplies_r1 : List Cond := [Cond.fieldLink RX1 21 "HeardSecond$Outlook" "worths" "[I", Cond.methodLink RX1 71 yX1_tableWords, Cond.instanceMethod yX1_tableWords, Cond.selects RX1 yX1_tableWords yX1_tableWords, Cond.initialized RX1, Cond.code yX1_tableWords cX1_tableWords 4 none, Cond.fieldLink RX1 36 "HeardSecond$Outlook" "bench" "LHeardSecond$Bench;", Cond.fieldLink RX1 40 "HeardSecond$Outlook" "now" "LHeardSecond$Trial;", Cond.fieldLink RX1 9 "HeardSecond$Outlook" "lastThen" "[I", Cond.fieldLink RX1 15 "HeardSecond$Outlook" "believedThen" "[I", Cond.methodLink RX1 50 yX0_counts, Cond.instanceMethod yX0_counts, Cond.selects RX0 yX0_counts yX0_counts, Cond.initialized RX0, Cond.code yX0_counts cX0_counts 5 (some .boolean), Cond.methodLink RX0 47 yX0_kindAt, Cond.instanceMethod yX0_kindAt, Cond.selects RX0 yX0_kindAt yX0_kindAt, Cond.code yX0_kindAt cX0_kindAt 2 (some .int), Cond.fieldLink RX0 30 "HeardSecond$Bench" "seats" "I", Cond.fieldLink RX0 9 "HeardSecond$Bench" "kinds" "[I", Cond.static yX4_isIn, Cond.initialized RX4, Cond.code yX4_isIn cX4_isIn 2 (some .boolean)]
def wsX1_weighReplies_r2 : List Cond := [Cond.methodLink RX0 58 yX0_sitsBeside, Cond.instanceMethod yX0_sitsBeside, Cond.selects RX0 yX0_sitsBeside yX0_sitsBeside, Cond.code yX0_sitsBeside cX0_sitsBeside 3 (some .boolean), Cond.methodLink RX1 56 yX1_wordPlace, Cond.static yX1_wordPlace, Cond.code yX1_wordPlace cX1_wordPlace 2 (some .int), Cond.methodLink RX1 60 yX0_lastBehind, Cond.instanceMethod yX0_lastBehind, Cond.selects RX0 yX0_lastBehind yX0_lastBehind, Cond.code yX0_lastBehind cX0_lastBehind 2 (some .int), Cond.static yX4_put, Cond.code yX4_put cX4_put 3 none, Cond.methodLink RX1 68 yX0_believedBehind, Cond.instanceMethod yX0_believedBehind, Cond.selects RX0 yX0_believedBehind yX0_believedBehind, Cond.code yX0_believedBehind cX0_believedBehind 4 (some .int), Cond.methodLink RX1 100 yX1_worthPlace, Cond.static yX1_worthPlace, Cond.code yX1_worthPlace cX1_worthPlace 2 (some .int), Cond.methodLink RX1 103 yX1_worthOfEnd, Cond.instanceMethod yX1_worthOfEnd, Cond.selects RX1 yX1_worthOfEnd yX1_worthOfEnd, Cond.code yX1_worthOfEnd cX1_worthOfEnd 2 (some .int)]
def wsX1_weighReplies_r3 : List Cond := [Cond.methodLink RX1 133 yX0_sideAt, Cond.instanceMethod yX0_sideAt, Cond.selects RX0 yX0_sideAt yX0_sideAt, Cond.code yX0_sideAt cX0_sideAt 2 (some .int), Cond.fieldLink RX0 15 "HeardSecond$Bench" "sides" "[I", Cond.methodLink RX1 106 yX1_weighBreath, Cond.instanceMethod yX1_weighBreath, Cond.selects RX1 yX1_weighBreath yX1_weighBreath, Cond.code yX1_weighBreath cX1_weighBreath 6 none, Cond.fieldLink RX1 24 "HeardSecond$Outlook" "earlierWorths" "[I", Cond.methodLink RX1 110 yX1_bestByWord, Cond.instanceMethod yX1_bestByWord, Cond.selects RX1 yX1_bestByWord yX1_bestByWord, Cond.code yX1_bestByWord cX1_bestByWord 5 (some .int), Cond.methodLink RX1 120 yX1_isTurnOf, Cond.instanceMethod yX1_isTurnOf, Cond.selects RX1 yX1_isTurnOf yX1_isTurnOf, Cond.code yX1_isTurnOf cX1_isTurnOf 4 (some .boolean), Cond.static yX4_at, Cond.code yX4_at cX4_at 2 (some .int), Cond.methodLink RX1 123 yX1_worthBehind, Cond.instanceMethod yX1_worthBehind, Cond.selects RX1 yX1_worthBehind yX1_worthBehind, Cond.code yX1_worthBehind cX1_worthBehind 4 (some .int)]
def wsX1_weighReplies_r4 : List Cond := [Cond.methodLink RX1 113 yX1_better, Cond.static yX1_better, Cond.code yX1_better cX1_better 3 (some .int), Cond.methodLink RX1 130 Lib.Math.max.name, Cond.static Lib.Math.max.name, Cond.initialized "java/lang/Math", Cond.code Lib.Math.max.name Lib.Math.max.code 2 (some .int), Cond.methodLink RX1 82 Lib.Math.min.name, Cond.static Lib.Math.min.name, Cond.code Lib.Math.min.name Lib.Math.min.code 2 (some .int), Cond.static yX4_copy, Cond.code yX4_copy cX4_copy 3 none, Cond.methodLink RX4 110 yX4_at]
def wsX1_weighReplies : List Cond := .code yX1_weighReplies cX1_weighReplies 4 none :: ((wsX1_weighReplies_r1 ++ (wsX1_weighReplies_r2 ++ (wsX1_weighReplies_r3 ++ wsX1_weighReplies_r4))) ++ wsX10 ++ wsX30 ++ wsX00)
def wsX1_bestWorth_r1 : List Cond := [Cond.fieldLink RX1 21 "HeardSecond$Outlook" "worths" "[I", Cond.fieldLink RX1 40 "HeardSecond$Outlook" "now" "LHeardSecond$Trial;", Cond.methodLink RX1 100 yX1_worthPlace, Cond.static yX1_worthPlace, Cond.initialized RX1, Cond.code yX1_worthPlace cX1_worthPlace 2 (some .int), Cond.static yX4_at, Cond.initialized RX4, Cond.code yX4_at cX4_at 2 (some .int), Cond.methodLink RX1 110 yX1_bestByWord, Cond.instanceMethod yX1_bestByWord, Cond.selects RX1 yX1_bestByWord yX1_bestByWord, Cond.code yX1_bestByWord cX1_bestByWord 5 (some .int), Cond.methodLink RX1 120 yX1_isTurnOf, Cond.instanceMethod yX1_isTurnOf, Cond.selects RX1 yX1_isTurnOf yX1_isTurnOf, Cond.code yX1_isTurnOf cX1_isTurnOf 4 (some .boolean), Cond.fieldLink RX1 36 "HeardSecond$Outlook" "bench" "LHeardSecond$Bench;", Cond.fieldLink RX1 9 "HeardSecond$Outlook" "lastThen" "[I", Cond.methodLink RX1 133 yX0_sideAt, Cond.instanceMethod yX0_sideAt, Cond.selects RX0 yX0_sideAt yX0_sideAt, Cond.initialized RX0, Cond.code yX0_sideAt cX0_sideAt 2 (some .int)]
def wsX1_bestWorth_r2 : List Cond := [Cond.fieldLink RX0 30 "HeardSecond$Bench" "seats" "I", Cond.fieldLink RX0 15 "HeardSecond$Bench" "sides" "[I", Cond.methodLink RX1 56 yX1_wordPlace, Cond.static yX1_wordPlace, Cond.code yX1_wordPlace cX1_wordPlace 2 (some .int), Cond.methodLink RX1 123 yX1_worthBehind, Cond.instanceMethod yX1_worthBehind, Cond.selects RX1 yX1_worthBehind yX1_worthBehind, Cond.code yX1_worthBehind cX1_worthBehind 4 (some .int), Cond.fieldLink RX1 15 "HeardSecond$Outlook" "believedThen" "[I", Cond.methodLink RX1 113 yX1_better, Cond.static yX1_better, Cond.code yX1_better cX1_better 3 (some .int), Cond.methodLink RX1 130 Lib.Math.max.name, Cond.static Lib.Math.max.name, Cond.initialized "java/lang/Math", Cond.code Lib.Math.max.name Lib.Math.max.code 2 (some .int), Cond.methodLink RX1 82 Lib.Math.min.name, Cond.static Lib.Math.min.name, Cond.code Lib.Math.min.name Lib.Math.min.code 2 (some .int)]
def wsX1_bestWorth : List Cond := .code yX1_bestWorth cX1_bestWorth 1 (some .int) :: ((wsX1_bestWorth_r1 ++ wsX1_bestWorth_r2) ++ wsX10 ++ wsX30 ++ wsX00)
def wsX1_bestOpening_r1 : List Cond := [Cond.fieldLink RX1 21 "HeardSecond$Outlook" "worths" "[I", Cond.fieldLink RX1 40 "HeardSecond$Outlook" "now" "LHeardSecond$Trial;", Cond.methodLink RX1 116 yX1_bestWorth, Cond.instanceMethod yX1_bestWorth, Cond.selects RX1 yX1_bestWorth yX1_bestWorth, Cond.initialized RX1, Cond.code yX1_bestWorth cX1_bestWorth 1 (some .int), Cond.methodLink RX1 100 yX1_worthPlace, Cond.static yX1_worthPlace, Cond.code yX1_worthPlace cX1_worthPlace 2 (some .int), Cond.static yX4_at, Cond.initialized RX4, Cond.code yX4_at cX4_at 2 (some .int), Cond.methodLink RX1 110 yX1_bestByWord, Cond.instanceMethod yX1_bestByWord, Cond.selects RX1 yX1_bestByWord yX1_bestByWord, Cond.code yX1_bestByWord cX1_bestByWord 5 (some .int), Cond.methodLink RX1 120 yX1_isTurnOf, Cond.instanceMethod yX1_isTurnOf, Cond.selects RX1 yX1_isTurnOf yX1_isTurnOf, Cond.code yX1_isTurnOf cX1_isTurnOf 4 (some .boolean), Cond.fieldLink RX1 36 "HeardSecond$Outlook" "bench" "LHeardSecond$Bench;", Cond.fieldLink RX1 9 "HeardSecond$Outlook" "lastThen" "[I", Cond.methodLink RX1 133 yX0_sideAt]
def wsX1_bestOpening_r2 : List Cond := [Cond.instanceMethod yX0_sideAt, Cond.selects RX0 yX0_sideAt yX0_sideAt, Cond.initialized RX0, Cond.code yX0_sideAt cX0_sideAt 2 (some .int), Cond.fieldLink RX0 30 "HeardSecond$Bench" "seats" "I", Cond.fieldLink RX0 15 "HeardSecond$Bench" "sides" "[I", Cond.methodLink RX1 56 yX1_wordPlace, Cond.static yX1_wordPlace, Cond.code yX1_wordPlace cX1_wordPlace 2 (some .int), Cond.methodLink RX1 123 yX1_worthBehind, Cond.instanceMethod yX1_worthBehind, Cond.selects RX1 yX1_worthBehind yX1_worthBehind, Cond.code yX1_worthBehind cX1_worthBehind 4 (some .int), Cond.fieldLink RX1 15 "HeardSecond$Outlook" "believedThen" "[I", Cond.methodLink RX1 113 yX1_better, Cond.static yX1_better, Cond.code yX1_better cX1_better 3 (some .int), Cond.methodLink RX1 130 Lib.Math.max.name, Cond.static Lib.Math.max.name, Cond.initialized "java/lang/Math", Cond.code Lib.Math.max.name Lib.Math.max.code 2 (some .int), Cond.methodLink RX1 82 Lib.Math.min.name, Cond.static Lib.Math.min.name, Cond.code Lib.Math.min.name Lib.Math.min.code 2 (some .int)]
def wsX1_bestOpening : List Cond := .code yX1_bestOpening cX1_bestOpening 3 (some .int) :: ((wsX1_bestOpening_r1 ++ wsX1_bestOpening_r2) ++ wsX10 ++ wsX30 ++ wsX00)
def wsX1_rowPlace : List Cond := .code yX1_rowPlace cX1_rowPlace 2 (some .int) :: ([])
def wsX3_allows : List Cond := .code yX3_allows cX3_allows 4 (some .boolean) :: ([.fieldLink RX3 43 "HeardSecond$Trial" "told" "I", .fieldLink RX3 22 "HeardSecond$Trial" "toldWords" "[I", .fieldLink RX3 25 "HeardSecond$Trial" "toldSeats" "[I", .static yX4_at, .initialized RX4, .code yX4_at cX4_at 2 (some .int)] ++ wsX30)
def wsX1_canBeWord : List Cond := .code yX1_canBeWord cX1_canBeWord 5 (some .boolean) :: ([.fieldLink RX1 9 "HeardSecond$Outlook" "lastThen" "[I", .fieldLink RX1 40 "HeardSecond$Outlook" "now" "LHeardSecond$Trial;", .fieldLink RX1 15 "HeardSecond$Outlook" "believedThen" "[I", .methodLink RX1 56 yX1_wordPlace, .static yX1_wordPlace, .initialized RX1, .code yX1_wordPlace cX1_wordPlace 2 (some .int), .static yX4_at, .initialized RX4, .code yX4_at cX4_at 2 (some .int), .methodLink RX1 139 yX3_allows, .instanceMethod yX3_allows, .selects RX3 yX3_allows yX3_allows, .initialized RX3, .code yX3_allows cX3_allows 4 (some .boolean), .fieldLink RX3 43 "HeardSecond$Trial" "told" "I", .fieldLink RX3 22 "HeardSecond$Trial" "toldWords" "[I", .fieldLink RX3 25 "HeardSecond$Trial" "toldSeats" "[I"] ++ wsX10 ++ wsX30)
def wsX1_fillWays_r1 : List Cond := [Cond.fieldLink RX1 27 "HeardSecond$Outlook" "ways" "[I", Cond.fieldLink RX1 40 "HeardSecond$Outlook" "now" "LHeardSecond$Trial;", Cond.fieldLink RX1 9 "HeardSecond$Outlook" "lastThen" "[I", Cond.methodLink RX1 71 yX1_tableWords, Cond.instanceMethod yX1_tableWords, Cond.selects RX1 yX1_tableWords yX1_tableWords, Cond.initialized RX1, Cond.code yX1_tableWords cX1_tableWords 4 none, Cond.fieldLink RX1 36 "HeardSecond$Outlook" "bench" "LHeardSecond$Bench;", Cond.fieldLink RX1 15 "HeardSecond$Outlook" "believedThen" "[I", Cond.methodLink RX1 50 yX0_counts, Cond.instanceMethod yX0_counts, Cond.selects RX0 yX0_counts yX0_counts, Cond.initialized RX0, Cond.code yX0_counts cX0_counts 5 (some .boolean), Cond.methodLink RX0 47 yX0_kindAt, Cond.instanceMethod yX0_kindAt, Cond.selects RX0 yX0_kindAt yX0_kindAt, Cond.code yX0_kindAt cX0_kindAt 2 (some .int), Cond.fieldLink RX0 30 "HeardSecond$Bench" "seats" "I", Cond.fieldLink RX0 9 "HeardSecond$Bench" "kinds" "[I", Cond.static yX4_isIn, Cond.initialized RX4, Cond.code yX4_isIn cX4_isIn 2 (some .boolean)]
def wsX1_fillWays_r2 : List Cond := [Cond.methodLink RX0 58 yX0_sitsBeside, Cond.instanceMethod yX0_sitsBeside, Cond.selects RX0 yX0_sitsBeside yX0_sitsBeside, Cond.code yX0_sitsBeside cX0_sitsBeside 3 (some .boolean), Cond.methodLink RX1 56 yX1_wordPlace, Cond.static yX1_wordPlace, Cond.code yX1_wordPlace cX1_wordPlace 2 (some .int), Cond.methodLink RX1 60 yX0_lastBehind, Cond.instanceMethod yX0_lastBehind, Cond.selects RX0 yX0_lastBehind yX0_lastBehind, Cond.code yX0_lastBehind cX0_lastBehind 2 (some .int), Cond.static yX4_put, Cond.code yX4_put cX4_put 3 none, Cond.methodLink RX1 68 yX0_believedBehind, Cond.instanceMethod yX0_believedBehind, Cond.selects RX0 yX0_believedBehind yX0_believedBehind, Cond.code yX0_believedBehind cX0_believedBehind 4 (some .int), Cond.static yX4_fill, Cond.code yX4_fill cX4_fill 3 none, Cond.methodLink RX1 136 yX1_rowPlace, Cond.static yX1_rowPlace, Cond.code yX1_rowPlace cX1_rowPlace 2 (some .int), Cond.methodLink RX1 139 yX3_allows, Cond.instanceMethod yX3_allows]
def wsX1_fillWays_r3 : List Cond := [Cond.selects RX3 yX3_allows yX3_allows, Cond.initialized RX3, Cond.code yX3_allows cX3_allows 4 (some .boolean), Cond.fieldLink RX3 43 "HeardSecond$Trial" "told" "I", Cond.fieldLink RX3 22 "HeardSecond$Trial" "toldWords" "[I", Cond.fieldLink RX3 25 "HeardSecond$Trial" "toldSeats" "[I", Cond.static yX4_at, Cond.code yX4_at cX4_at 2 (some .int), Cond.methodLink RX1 143 yX1_canBeWord, Cond.instanceMethod yX1_canBeWord, Cond.selects RX1 yX1_canBeWord yX1_canBeWord, Cond.code yX1_canBeWord cX1_canBeWord 5 (some .boolean)]
def wsX1_fillWays : List Cond := .code yX1_fillWays cX1_fillWays 6 none :: ((wsX1_fillWays_r1 ++ (wsX1_fillWays_r2 ++ wsX1_fillWays_r3)) ++ wsX10 ++ wsX30 ++ wsX00)
def wsX1_waysOf : List Cond := .code yX1_waysOf cX1_waysOf 4 (some .int) :: ([.fieldLink RX1 27 "HeardSecond$Outlook" "ways" "[I", .methodLink RX1 136 yX1_rowPlace, .static yX1_rowPlace, .initialized RX1, .code yX1_rowPlace cX1_rowPlace 2 (some .int), .static yX4_at, .initialized RX4, .code yX4_at cX4_at 2 (some .int)] ++ wsX10)
def wsX1_lastsBehind : List Cond := .code yX1_lastsBehind cX1_lastsBehind 4 (some .int) :: ([.fieldLink RX1 27 "HeardSecond$Outlook" "ways" "[I", .methodLink RX1 136 yX1_rowPlace, .static yX1_rowPlace, .initialized RX1, .code yX1_rowPlace cX1_rowPlace 2 (some .int), .static yX4_at, .initialized RX4, .code yX4_at cX4_at 2 (some .int)] ++ wsX10)
def wsX1_fillEndings_r1 : List Cond := [Cond.fieldLink RX1 30 "HeardSecond$Outlook" "endings" "[I", Cond.fieldLink RX1 9 "HeardSecond$Outlook" "lastThen" "[I", Cond.static yX4_fill, Cond.initialized RX4, Cond.code yX4_fill cX4_fill 3 none, Cond.methodLink RX1 136 yX1_rowPlace, Cond.static yX1_rowPlace, Cond.initialized RX1, Cond.code yX1_rowPlace cX1_rowPlace 2 (some .int), Cond.static yX4_put, Cond.code yX4_put cX4_put 3 none, Cond.methodLink RX1 143 yX1_canBeWord, Cond.instanceMethod yX1_canBeWord, Cond.selects RX1 yX1_canBeWord yX1_canBeWord, Cond.code yX1_canBeWord cX1_canBeWord 5 (some .boolean), Cond.fieldLink RX1 40 "HeardSecond$Outlook" "now" "LHeardSecond$Trial;", Cond.fieldLink RX1 15 "HeardSecond$Outlook" "believedThen" "[I", Cond.methodLink RX1 56 yX1_wordPlace, Cond.static yX1_wordPlace, Cond.code yX1_wordPlace cX1_wordPlace 2 (some .int), Cond.static yX4_at, Cond.code yX4_at cX4_at 2 (some .int), Cond.methodLink RX1 139 yX3_allows, Cond.instanceMethod yX3_allows]
def wsX1_fillEndings_r2 : List Cond := [Cond.selects RX3 yX3_allows yX3_allows, Cond.initialized RX3, Cond.code yX3_allows cX3_allows 4 (some .boolean), Cond.fieldLink RX3 43 "HeardSecond$Trial" "told" "I", Cond.fieldLink RX3 22 "HeardSecond$Trial" "toldWords" "[I", Cond.fieldLink RX3 25 "HeardSecond$Trial" "toldSeats" "[I"]
def wsX1_fillEndings : List Cond := .code yX1_fillEndings cX1_fillEndings 5 none :: ((wsX1_fillEndings_r1 ++ wsX1_fillEndings_r2) ++ wsX10 ++ wsX30)
def wsX1_mostLeft_r1 : List Cond := [Cond.fieldLink RX1 33 "HeardSecond$Outlook" "left" "[I", Cond.fieldLink RX1 27 "HeardSecond$Outlook" "ways" "[I", Cond.fieldLink RX1 15 "HeardSecond$Outlook" "believedThen" "[I", Cond.fieldLink RX1 30 "HeardSecond$Outlook" "endings" "[I", Cond.fieldLink RX1 9 "HeardSecond$Outlook" "lastThen" "[I", Cond.methodLink RX1 130 Lib.Math.max.name, Cond.static Lib.Math.max.name, Cond.initialized "java/lang/Math", Cond.code Lib.Math.max.name Lib.Math.max.code 2 (some .int), Cond.static yX4_fill, Cond.initialized RX4, Cond.code yX4_fill cX4_fill 3 none, Cond.methodLink RX1 136 yX1_rowPlace, Cond.static yX1_rowPlace, Cond.initialized RX1, Cond.code yX1_rowPlace cX1_rowPlace 2 (some .int), Cond.static yX4_at, Cond.code yX4_at cX4_at 2 (some .int), Cond.methodLink RX1 143 yX1_canBeWord, Cond.instanceMethod yX1_canBeWord, Cond.selects RX1 yX1_canBeWord yX1_canBeWord, Cond.code yX1_canBeWord cX1_canBeWord 5 (some .boolean), Cond.fieldLink RX1 40 "HeardSecond$Outlook" "now" "LHeardSecond$Trial;", Cond.methodLink RX1 56 yX1_wordPlace]
def wsX1_mostLeft_r2 : List Cond := [Cond.static yX1_wordPlace, Cond.code yX1_wordPlace cX1_wordPlace 2 (some .int), Cond.methodLink RX1 139 yX3_allows, Cond.instanceMethod yX3_allows, Cond.selects RX3 yX3_allows yX3_allows, Cond.initialized RX3, Cond.code yX3_allows cX3_allows 4 (some .boolean), Cond.fieldLink RX3 43 "HeardSecond$Trial" "told" "I", Cond.fieldLink RX3 22 "HeardSecond$Trial" "toldWords" "[I", Cond.fieldLink RX3 25 "HeardSecond$Trial" "toldSeats" "[I", Cond.static yX4_put, Cond.code yX4_put cX4_put 3 none]
def wsX1_mostLeft : List Cond := .code yX1_mostLeft cX1_mostLeft 9 (some .int) :: ((wsX1_mostLeft_r1 ++ wsX1_mostLeft_r2) ++ wsX10 ++ wsX30)
def wsX1_bestLook_r1 : List Cond := [Cond.methodLink RX1 146 yX1_fillWays, Cond.instanceMethod yX1_fillWays, Cond.selects RX1 yX1_fillWays yX1_fillWays, Cond.initialized RX1, Cond.code yX1_fillWays cX1_fillWays 6 none, Cond.fieldLink RX1 27 "HeardSecond$Outlook" "ways" "[I", Cond.fieldLink RX1 40 "HeardSecond$Outlook" "now" "LHeardSecond$Trial;", Cond.fieldLink RX1 9 "HeardSecond$Outlook" "lastThen" "[I", Cond.methodLink RX1 71 yX1_tableWords, Cond.instanceMethod yX1_tableWords, Cond.selects RX1 yX1_tableWords yX1_tableWords, Cond.code yX1_tableWords cX1_tableWords 4 none, Cond.fieldLink RX1 36 "HeardSecond$Outlook" "bench" "LHeardSecond$Bench;", Cond.fieldLink RX1 15 "HeardSecond$Outlook" "believedThen" "[I", Cond.methodLink RX1 50 yX0_counts, Cond.instanceMethod yX0_counts, Cond.selects RX0 yX0_counts yX0_counts, Cond.initialized RX0, Cond.code yX0_counts cX0_counts 5 (some .boolean), Cond.methodLink RX0 47 yX0_kindAt, Cond.instanceMethod yX0_kindAt, Cond.selects RX0 yX0_kindAt yX0_kindAt, Cond.code yX0_kindAt cX0_kindAt 2 (some .int), Cond.fieldLink RX0 30 "HeardSecond$Bench" "seats" "I"]
def wsX1_bestLook_r2 : List Cond := [Cond.fieldLink RX0 9 "HeardSecond$Bench" "kinds" "[I", Cond.static yX4_isIn, Cond.initialized RX4, Cond.code yX4_isIn cX4_isIn 2 (some .boolean), Cond.methodLink RX0 58 yX0_sitsBeside, Cond.instanceMethod yX0_sitsBeside, Cond.selects RX0 yX0_sitsBeside yX0_sitsBeside, Cond.code yX0_sitsBeside cX0_sitsBeside 3 (some .boolean), Cond.methodLink RX1 56 yX1_wordPlace, Cond.static yX1_wordPlace, Cond.code yX1_wordPlace cX1_wordPlace 2 (some .int), Cond.methodLink RX1 60 yX0_lastBehind, Cond.instanceMethod yX0_lastBehind, Cond.selects RX0 yX0_lastBehind yX0_lastBehind, Cond.code yX0_lastBehind cX0_lastBehind 2 (some .int), Cond.static yX4_put, Cond.code yX4_put cX4_put 3 none, Cond.methodLink RX1 68 yX0_believedBehind, Cond.instanceMethod yX0_believedBehind, Cond.selects RX0 yX0_believedBehind yX0_believedBehind, Cond.code yX0_believedBehind cX0_believedBehind 4 (some .int), Cond.static yX4_fill, Cond.code yX4_fill cX4_fill 3 none, Cond.methodLink RX1 136 yX1_rowPlace]
def wsX1_bestLook_r3 : List Cond := [Cond.static yX1_rowPlace, Cond.code yX1_rowPlace cX1_rowPlace 2 (some .int), Cond.methodLink RX1 139 yX3_allows, Cond.instanceMethod yX3_allows, Cond.selects RX3 yX3_allows yX3_allows, Cond.initialized RX3, Cond.code yX3_allows cX3_allows 4 (some .boolean), Cond.fieldLink RX3 43 "HeardSecond$Trial" "told" "I", Cond.fieldLink RX3 22 "HeardSecond$Trial" "toldWords" "[I", Cond.fieldLink RX3 25 "HeardSecond$Trial" "toldSeats" "[I", Cond.static yX4_at, Cond.code yX4_at cX4_at 2 (some .int), Cond.methodLink RX1 143 yX1_canBeWord, Cond.instanceMethod yX1_canBeWord, Cond.selects RX1 yX1_canBeWord yX1_canBeWord, Cond.code yX1_canBeWord cX1_canBeWord 5 (some .boolean), Cond.methodLink RX1 149 yX1_waysOf, Cond.instanceMethod yX1_waysOf, Cond.selects RX1 yX1_waysOf yX1_waysOf, Cond.code yX1_waysOf cX1_waysOf 4 (some .int), Cond.methodLink RX1 152 yX1_fillEndings, Cond.instanceMethod yX1_fillEndings, Cond.selects RX1 yX1_fillEndings yX1_fillEndings, Cond.code yX1_fillEndings cX1_fillEndings 5 none]
def wsX1_bestLook_r4 : List Cond := [Cond.fieldLink RX1 30 "HeardSecond$Outlook" "endings" "[I", Cond.methodLink RX1 155 yX1_mostLeft, Cond.instanceMethod yX1_mostLeft, Cond.selects RX1 yX1_mostLeft yX1_mostLeft, Cond.code yX1_mostLeft cX1_mostLeft 9 (some .int), Cond.fieldLink RX1 33 "HeardSecond$Outlook" "left" "[I", Cond.methodLink RX1 130 Lib.Math.max.name, Cond.static Lib.Math.max.name, Cond.initialized "java/lang/Math", Cond.code Lib.Math.max.name Lib.Math.max.code 2 (some .int)]
def wsX1_bestLook : List Cond := .code yX1_bestLook cX1_bestLook 5 (some .int) :: ((wsX1_bestLook_r1 ++ (wsX1_bestLook_r2 ++ (wsX1_bestLook_r3 ++ wsX1_bestLook_r4))) ++ wsX10 ++ wsX30 ++ wsX00)
def wsX2_init : List Cond := .code yX2_init cX2_init 1 none :: ([.methodLink RX2 3 objectInit, .instanceMethod objectInit, .code objectInit ⟨#[0xb1]⟩ 1 none, .arrayClass .int, .fieldLink RX2 9 "HeardSecond$Page" "codes" "[I"] ++ wsX20)
def wsX2_append : List Cond := .code yX2_append cX2_append 2 none :: ([.fieldLink RX2 15 "HeardSecond$Page" "length" "I", .fieldLink RX2 9 "HeardSecond$Page" "codes" "[I", .static yX4_put, .initialized RX4, .code yX4_put cX4_put 3 none] ++ wsX20)
def wsX2_wipe : List Cond := .code yX2_wipe cX2_wipe 1 none :: ([.fieldLink RX2 15 "HeardSecond$Page" "length" "I"] ++ wsX20)
def wsX2_dueBehindMark : List Cond := .code yX2_dueBehindMark cX2_dueBehindMark 2 (some .int) :: ([])
def wsX2_dueBehind : List Cond := .code yX2_dueBehind cX2_dueBehind 3 (some .int) :: ([.methodLink RX2 39 yX2_kindOf, .static yX2_kindOf, .initialized RX2, .code yX2_kindOf cX2_kindOf 1 (some .int), .methodLink RX2 42 yX2_dueBehindMark, .static yX2_dueBehindMark, .code yX2_dueBehindMark cX2_dueBehindMark 2 (some .int)])
def wsX2_firstFault : List Cond := .code yX2_firstFault cX2_firstFault 5 (some .int) :: ([.fieldLink RX2 15 "HeardSecond$Page" "length" "I", .methodLink RX2 27 yX2_codeAt, .instanceMethod yX2_codeAt, .selects RX2 yX2_codeAt yX2_codeAt, .initialized RX2, .code yX2_codeAt cX2_codeAt 2 (some .int), .fieldLink RX2 9 "HeardSecond$Page" "codes" "[I", .static yX4_at, .initialized RX4, .code yX4_at cX4_at 2 (some .int), .methodLink RX2 31 yX2_dueBehind, .static yX2_dueBehind, .code yX2_dueBehind cX2_dueBehind 3 (some .int), .methodLink RX2 39 yX2_kindOf, .static yX2_kindOf, .code yX2_kindOf cX2_kindOf 1 (some .int), .methodLink RX2 42 yX2_dueBehindMark, .static yX2_dueBehindMark, .code yX2_dueBehindMark cX2_dueBehindMark 2 (some .int)] ++ wsX20)
def wsX2_isWhole : List Cond := .code yX2_isWhole cX2_isWhole 1 (some .boolean) :: ([.fieldLink RX2 15 "HeardSecond$Page" "length" "I", .methodLink RX2 27 yX2_codeAt, .instanceMethod yX2_codeAt, .selects RX2 yX2_codeAt yX2_codeAt, .initialized RX2, .code yX2_codeAt cX2_codeAt 2 (some .int), .fieldLink RX2 9 "HeardSecond$Page" "codes" "[I", .static yX4_at, .initialized RX4, .code yX4_at cX4_at 2 (some .int), .methodLink RX2 35 yX2_firstFault, .instanceMethod yX2_firstFault, .selects RX2 yX2_firstFault yX2_firstFault, .code yX2_firstFault cX2_firstFault 5 (some .int), .methodLink RX2 31 yX2_dueBehind, .static yX2_dueBehind, .code yX2_dueBehind cX2_dueBehind 3 (some .int), .methodLink RX2 39 yX2_kindOf, .static yX2_kindOf, .code yX2_kindOf cX2_kindOf 1 (some .int), .methodLink RX2 42 yX2_dueBehindMark, .static yX2_dueBehindMark, .code yX2_dueBehindMark cX2_dueBehindMark 2 (some .int)] ++ wsX20)
def wsX3_init : List Cond := .code yX3_init cX3_init 1 none :: ([.methodLink RX3 3 objectInit, .instanceMethod objectInit, .code objectInit ⟨#[0xb1]⟩ 1 none, .fieldLink RX3 9 "HeardSecond$Trial" "last" "I", .fieldLink RX3 15 "HeardSecond$Trial" "believed" "I", .arrayClass .int, .fieldLink RX3 18 "HeardSecond$Trial" "words" "[I", .fieldLink RX3 22 "HeardSecond$Trial" "toldWords" "[I", .fieldLink RX3 25 "HeardSecond$Trial" "toldSeats" "[I"] ++ wsX30)
def wsX3_beginCase : List Cond := .code yX3_beginCase cX3_beginCase 1 none :: ([.fieldLink RX3 9 "HeardSecond$Trial" "last" "I", .fieldLink RX3 15 "HeardSecond$Trial" "believed" "I", .fieldLink RX3 50 "HeardSecond$Trial" "out" "I", .fieldLink RX3 53 "HeardSecond$Trial" "silence" "I"] ++ wsX30)
def wsX3_beginAll : List Cond := .code yX3_beginAll cX3_beginAll 1 none :: ([.fieldLink RX3 31 "HeardSecond$Trial" "ended" "I", .fieldLink RX3 34 "HeardSecond$Trial" "wonBy0" "I", .fieldLink RX3 37 "HeardSecond$Trial" "wonBy1" "I", .fieldLink RX3 40 "HeardSecond$Trial" "breaths" "I", .fieldLink RX3 43 "HeardSecond$Trial" "told" "I", .fieldLink RX3 18 "HeardSecond$Trial" "words" "[I", .methodLink RX3 28 yX3_beginCase, .instanceMethod yX3_beginCase, .selects RX3 yX3_beginCase yX3_beginCase, .initialized RX3, .code yX3_beginCase cX3_beginCase 1 none, .fieldLink RX3 9 "HeardSecond$Trial" "last" "I", .fieldLink RX3 15 "HeardSecond$Trial" "believed" "I", .fieldLink RX3 50 "HeardSecond$Trial" "out" "I", .fieldLink RX3 53 "HeardSecond$Trial" "silence" "I", .static yX4_fill, .initialized RX4, .code yX4_fill cX4_fill 3 none] ++ wsX30)
def wsX3_takeFrom : List Cond := .code yX3_takeFrom cX3_takeFrom 2 none :: ([.fieldLink RX3 9 "HeardSecond$Trial" "last" "I", .fieldLink RX3 15 "HeardSecond$Trial" "believed" "I", .fieldLink RX3 50 "HeardSecond$Trial" "out" "I", .fieldLink RX3 53 "HeardSecond$Trial" "silence" "I", .fieldLink RX3 31 "HeardSecond$Trial" "ended" "I", .fieldLink RX3 34 "HeardSecond$Trial" "wonBy0" "I", .fieldLink RX3 37 "HeardSecond$Trial" "wonBy1" "I", .fieldLink RX3 40 "HeardSecond$Trial" "breaths" "I", .fieldLink RX3 43 "HeardSecond$Trial" "told" "I", .fieldLink RX3 18 "HeardSecond$Trial" "words" "[I", .fieldLink RX3 22 "HeardSecond$Trial" "toldWords" "[I", .fieldLink RX3 25 "HeardSecond$Trial" "toldSeats" "[I", .static yX4_copy, .initialized RX4, .code yX4_copy cX4_copy 3 none, .methodLink RX4 110 yX4_at, .static yX4_at, .code yX4_at cX4_at 2 (some .int)] ++ wsX30)
def wsX3_endCase : List Cond := .code yX3_endCase cX3_endCase 2 none :: ([.fieldLink RX3 31 "HeardSecond$Trial" "ended" "I", .fieldLink RX3 34 "HeardSecond$Trial" "wonBy0" "I", .fieldLink RX3 37 "HeardSecond$Trial" "wonBy1" "I", .methodLink RX3 28 yX3_beginCase, .instanceMethod yX3_beginCase, .selects RX3 yX3_beginCase yX3_beginCase, .initialized RX3, .code yX3_beginCase cX3_beginCase 1 none, .fieldLink RX3 9 "HeardSecond$Trial" "last" "I", .fieldLink RX3 15 "HeardSecond$Trial" "believed" "I", .fieldLink RX3 50 "HeardSecond$Trial" "out" "I", .fieldLink RX3 53 "HeardSecond$Trial" "silence" "I"] ++ wsX30)
def wsX3_keepSilence : List Cond := .code yX3_keepSilence cX3_keepSilence 2 none :: ([.fieldLink RX3 53 "HeardSecond$Trial" "silence" "I", .fieldLink RX3 15 "HeardSecond$Trial" "believed" "I", .methodLink RX3 97 yX0_sideAt, .instanceMethod yX0_sideAt, .selects RX0 yX0_sideAt yX0_sideAt, .initialized RX0, .code yX0_sideAt cX0_sideAt 2 (some .int), .fieldLink RX0 30 "HeardSecond$Bench" "seats" "I", .fieldLink RX0 15 "HeardSecond$Bench" "sides" "[I", .methodLink RX3 100 yX3_endCase, .instanceMethod yX3_endCase, .selects RX3 yX3_endCase yX3_endCase, .initialized RX3, .code yX3_endCase cX3_endCase 2 none, .fieldLink RX3 31 "HeardSecond$Trial" "ended" "I", .fieldLink RX3 34 "HeardSecond$Trial" "wonBy0" "I", .fieldLink RX3 37 "HeardSecond$Trial" "wonBy1" "I", .methodLink RX3 28 yX3_beginCase, .instanceMethod yX3_beginCase, .selects RX3 yX3_beginCase yX3_beginCase, .code yX3_beginCase cX3_beginCase 1 none, .fieldLink RX3 9 "HeardSecond$Trial" "last" "I", .fieldLink RX3 50 "HeardSecond$Trial" "out" "I"] ++ wsX30 ++ wsX00)
def wsX3_speak : List Cond := .code yX3_speak cX3_speak 3 none :: ([.fieldLink RX3 18 "HeardSecond$Trial" "words" "[I", .fieldLink RX3 9 "HeardSecond$Trial" "last" "I", .fieldLink RX3 15 "HeardSecond$Trial" "believed" "I", .static yX4_at, .initialized RX4, .code yX4_at cX4_at 2 (some .int), .static yX4_put, .code yX4_put cX4_put 3 none, .methodLink RX3 86 yX0_believedBehind, .instanceMethod yX0_believedBehind, .selects RX0 yX0_believedBehind yX0_believedBehind, .initialized RX0, .code yX0_believedBehind cX0_believedBehind 4 (some .int), .fieldLink RX0 30 "HeardSecond$Bench" "seats" "I", .methodLink RX0 47 yX0_kindAt, .instanceMethod yX0_kindAt, .selects RX0 yX0_kindAt yX0_kindAt, .code yX0_kindAt cX0_kindAt 2 (some .int), .fieldLink RX0 9 "HeardSecond$Bench" "kinds" "[I", .methodLink RX3 90 yX0_lastBehind, .instanceMethod yX0_lastBehind, .selects RX0 yX0_lastBehind yX0_lastBehind, .code yX0_lastBehind cX0_lastBehind 2 (some .int)] ++ wsX30 ++ wsX00)
def wsX3_breathe_r1 : List Cond := [Cond.fieldLink RX3 9 "HeardSecond$Trial" "last" "I", Cond.fieldLink RX3 50 "HeardSecond$Trial" "out" "I", Cond.fieldLink RX3 40 "HeardSecond$Trial" "breaths" "I", Cond.fieldLink RX3 53 "HeardSecond$Trial" "silence" "I", Cond.static yX4_isIn, Cond.initialized RX4, Cond.code yX4_isIn cX4_isIn 2 (some .boolean), Cond.methodLink RX3 64 yX0_counts, Cond.instanceMethod yX0_counts, Cond.selects RX0 yX0_counts yX0_counts, Cond.initialized RX0, Cond.code yX0_counts cX0_counts 5 (some .boolean), Cond.methodLink RX0 47 yX0_kindAt, Cond.instanceMethod yX0_kindAt, Cond.selects RX0 yX0_kindAt yX0_kindAt, Cond.code yX0_kindAt cX0_kindAt 2 (some .int), Cond.fieldLink RX0 30 "HeardSecond$Bench" "seats" "I", Cond.fieldLink RX0 9 "HeardSecond$Bench" "kinds" "[I", Cond.methodLink RX0 58 yX0_sitsBeside, Cond.instanceMethod yX0_sitsBeside, Cond.selects RX0 yX0_sitsBeside yX0_sitsBeside, Cond.code yX0_sitsBeside cX0_sitsBeside 3 (some .boolean), Cond.methodLink RX3 70 yX3_keepSilence, Cond.instanceMethod yX3_keepSilence]
def wsX3_breathe_r2 : List Cond := [Cond.selects RX3 yX3_keepSilence yX3_keepSilence, Cond.initialized RX3, Cond.code yX3_keepSilence cX3_keepSilence 2 none, Cond.fieldLink RX3 15 "HeardSecond$Trial" "believed" "I", Cond.methodLink RX3 97 yX0_sideAt, Cond.instanceMethod yX0_sideAt, Cond.selects RX0 yX0_sideAt yX0_sideAt, Cond.code yX0_sideAt cX0_sideAt 2 (some .int), Cond.fieldLink RX0 15 "HeardSecond$Bench" "sides" "[I", Cond.methodLink RX3 100 yX3_endCase, Cond.instanceMethod yX3_endCase, Cond.selects RX3 yX3_endCase yX3_endCase, Cond.code yX3_endCase cX3_endCase 2 none, Cond.fieldLink RX3 31 "HeardSecond$Trial" "ended" "I", Cond.fieldLink RX3 34 "HeardSecond$Trial" "wonBy0" "I", Cond.fieldLink RX3 37 "HeardSecond$Trial" "wonBy1" "I", Cond.methodLink RX3 28 yX3_beginCase, Cond.instanceMethod yX3_beginCase, Cond.selects RX3 yX3_beginCase yX3_beginCase, Cond.code yX3_beginCase cX3_beginCase 1 none, Cond.methodLink RX3 74 yX3_speak, Cond.instanceMethod yX3_speak, Cond.selects RX3 yX3_speak yX3_speak, Cond.code yX3_speak cX3_speak 3 none]
def wsX3_breathe_r3 : List Cond := [Cond.fieldLink RX3 18 "HeardSecond$Trial" "words" "[I", Cond.static yX4_at, Cond.code yX4_at cX4_at 2 (some .int), Cond.static yX4_put, Cond.code yX4_put cX4_put 3 none, Cond.methodLink RX3 86 yX0_believedBehind, Cond.instanceMethod yX0_believedBehind, Cond.selects RX0 yX0_believedBehind yX0_believedBehind, Cond.code yX0_believedBehind cX0_believedBehind 4 (some .int), Cond.methodLink RX3 90 yX0_lastBehind, Cond.instanceMethod yX0_lastBehind, Cond.selects RX0 yX0_lastBehind yX0_lastBehind, Cond.code yX0_lastBehind cX0_lastBehind 2 (some .int)]
def wsX3_breathe : List Cond := .code yX3_breathe cX3_breathe 7 (some .int) :: ((wsX3_breathe_r1 ++ (wsX3_breathe_r2 ++ wsX3_breathe_r3)) ++ wsX30 ++ wsX00)
def wsX3_tell : List Cond := .code yX3_tell cX3_tell 3 none :: ([.fieldLink RX3 43 "HeardSecond$Trial" "told" "I", .fieldLink RX3 22 "HeardSecond$Trial" "toldWords" "[I", .fieldLink RX3 25 "HeardSecond$Trial" "toldSeats" "[I", .static yX4_put, .initialized RX4, .code yX4_put cX4_put 3 none] ++ wsX30)
def wsX4_init_r1 : List Cond := [Cond.methodLink RX4 1 objectInit, Cond.instanceMethod objectInit, Cond.code objectInit ⟨#[0xb1]⟩ 1 none, Cond.classLink RX4 7 RX2, Cond.instantiable RX2 2, Cond.initialized RX2, Cond.fieldLink RX4 10 "HeardSecond" "page" "LHeardSecond$Page;", Cond.classLink RX4 16 RX0, Cond.instantiable RX0 4, Cond.initialized RX0, Cond.fieldLink RX4 19 "HeardSecond" "bench" "LHeardSecond$Bench;", Cond.classLink RX4 23 RX3, Cond.instantiable RX3 12, Cond.initialized RX3, Cond.fieldLink RX4 26 "HeardSecond" "now" "LHeardSecond$Trial;", Cond.fieldLink RX4 30 "HeardSecond" "kept" "LHeardSecond$Trial;", Cond.fieldLink RX4 33 "HeardSecond" "trying" "LHeardSecond$Trial;", Cond.classLink RX4 36 RX1, Cond.instantiable RX1 10, Cond.initialized RX1, Cond.fieldLink RX4 41 "HeardSecond" "outlook" "LHeardSecond$Outlook;", Cond.fieldLink RX4 45 "HeardSecond" "imageKept" "Z", Cond.fieldLink RX4 49 "HeardSecond" "courtsRead" "I", Cond.instanceMethod yX2_init]
def wsX4_init_r2 : List Cond := [Cond.code yX2_init cX2_init 1 none, Cond.methodLink RX2 3 objectInit, Cond.arrayClass .int, Cond.fieldLink RX2 9 "HeardSecond$Page" "codes" "[I", Cond.instanceMethod yX0_init, Cond.code yX0_init cX0_init 1 none, Cond.methodLink RX0 3 objectInit, Cond.fieldLink RX0 9 "HeardSecond$Bench" "kinds" "[I", Cond.fieldLink RX0 15 "HeardSecond$Bench" "sides" "[I", Cond.instanceMethod yX3_init, Cond.code yX3_init cX3_init 1 none, Cond.methodLink RX3 3 objectInit, Cond.fieldLink RX3 9 "HeardSecond$Trial" "last" "I", Cond.fieldLink RX3 15 "HeardSecond$Trial" "believed" "I", Cond.fieldLink RX3 18 "HeardSecond$Trial" "words" "[I", Cond.fieldLink RX3 22 "HeardSecond$Trial" "toldWords" "[I", Cond.fieldLink RX3 25 "HeardSecond$Trial" "toldSeats" "[I", Cond.methodLink RX4 38 yX1_init, Cond.instanceMethod yX1_init, Cond.code yX1_init cX1_init 3 none, Cond.methodLink RX1 3 objectInit, Cond.fieldLink RX1 9 "HeardSecond$Outlook" "lastThen" "[I", Cond.fieldLink RX1 15 "HeardSecond$Outlook" "believedThen" "[I", Cond.fieldLink RX1 18 "HeardSecond$Outlook" "steps" "[I"]
def wsX4_init_r3 : List Cond := [Cond.fieldLink RX1 21 "HeardSecond$Outlook" "worths" "[I", Cond.fieldLink RX1 24 "HeardSecond$Outlook" "earlierWorths" "[I", Cond.fieldLink RX1 27 "HeardSecond$Outlook" "ways" "[I", Cond.fieldLink RX1 30 "HeardSecond$Outlook" "endings" "[I", Cond.fieldLink RX1 33 "HeardSecond$Outlook" "left" "[I", Cond.fieldLink RX1 36 "HeardSecond$Outlook" "bench" "LHeardSecond$Bench;", Cond.fieldLink RX1 40 "HeardSecond$Outlook" "now" "LHeardSecond$Trial;"]
def wsX4_init : List Cond := .code yX4_init cX4_init 1 none :: ((wsX4_init_r1 ++ (wsX4_init_r2 ++ wsX4_init_r3)) ++ wsX20 ++ wsX40 ++ wsX00 ++ wsX30 ++ wsX10)
def wsX4_letter : List Cond := .code yX4_letter cX4_letter 2 (some .int) :: ([.fieldLink RX4 10 "HeardSecond" "page" "LHeardSecond$Page;", .methodLink RX4 56 yX2_append, .instanceMethod yX2_append, .selects RX2 yX2_append yX2_append, .initialized RX2, .code yX2_append cX2_append 2 none, .fieldLink RX2 15 "HeardSecond$Page" "length" "I", .fieldLink RX2 9 "HeardSecond$Page" "codes" "[I", .static yX4_put, .initialized RX4, .code yX4_put cX4_put 3 none] ++ wsX40 ++ wsX20)
def wsX4_blank : List Cond := .code yX4_blank cX4_blank 2 (some .int) :: ([.fieldLink RX4 10 "HeardSecond" "page" "LHeardSecond$Page;", .methodLink RX4 60 yX2_wipe, .instanceMethod yX2_wipe, .selects RX2 yX2_wipe yX2_wipe, .initialized RX2, .code yX2_wipe cX2_wipe 1 none, .fieldLink RX2 15 "HeardSecond$Page" "length" "I"] ++ wsX40 ++ wsX20)
def wsX4_fault : List Cond := .code yX4_fault cX4_fault 1 (some .int) :: ([.fieldLink RX4 10 "HeardSecond" "page" "LHeardSecond$Page;", .methodLink RX4 63 yX2_firstFault, .instanceMethod yX2_firstFault, .selects RX2 yX2_firstFault yX2_firstFault, .initialized RX2, .code yX2_firstFault cX2_firstFault 5 (some .int), .fieldLink RX2 15 "HeardSecond$Page" "length" "I", .methodLink RX2 27 yX2_codeAt, .instanceMethod yX2_codeAt, .selects RX2 yX2_codeAt yX2_codeAt, .code yX2_codeAt cX2_codeAt 2 (some .int), .fieldLink RX2 9 "HeardSecond$Page" "codes" "[I", .static yX4_at, .initialized RX4, .code yX4_at cX4_at 2 (some .int), .methodLink RX2 31 yX2_dueBehind, .static yX2_dueBehind, .code yX2_dueBehind cX2_dueBehind 3 (some .int), .methodLink RX2 39 yX2_kindOf, .static yX2_kindOf, .code yX2_kindOf cX2_kindOf 1 (some .int), .methodLink RX2 42 yX2_dueBehindMark, .static yX2_dueBehindMark, .code yX2_dueBehindMark cX2_dueBehindMark 2 (some .int)] ++ wsX40 ++ wsX20)
def wsX4_court_r1 : List Cond := [Cond.fieldLink RX4 10 "HeardSecond" "page" "LHeardSecond$Page;", Cond.fieldLink RX4 19 "HeardSecond" "bench" "LHeardSecond$Bench;", Cond.fieldLink RX4 26 "HeardSecond" "now" "LHeardSecond$Trial;", Cond.fieldLink RX4 45 "HeardSecond" "imageKept" "Z", Cond.fieldLink RX4 49 "HeardSecond" "courtsRead" "I", Cond.methodLink RX4 67 yX2_isWhole, Cond.instanceMethod yX2_isWhole, Cond.selects RX2 yX2_isWhole yX2_isWhole, Cond.initialized RX2, Cond.code yX2_isWhole cX2_isWhole 1 (some .boolean), Cond.fieldLink RX2 15 "HeardSecond$Page" "length" "I", Cond.methodLink RX2 27 yX2_codeAt, Cond.instanceMethod yX2_codeAt, Cond.selects RX2 yX2_codeAt yX2_codeAt, Cond.code yX2_codeAt cX2_codeAt 2 (some .int), Cond.fieldLink RX2 9 "HeardSecond$Page" "codes" "[I", Cond.static yX4_at, Cond.initialized RX4, Cond.code yX4_at cX4_at 2 (some .int), Cond.methodLink RX2 35 yX2_firstFault, Cond.instanceMethod yX2_firstFault, Cond.selects RX2 yX2_firstFault yX2_firstFault, Cond.code yX2_firstFault cX2_firstFault 5 (some .int), Cond.methodLink RX2 31 yX2_dueBehind]
def wsX4_court_r2 : List Cond := [Cond.static yX2_dueBehind, Cond.code yX2_dueBehind cX2_dueBehind 3 (some .int), Cond.methodLink RX2 39 yX2_kindOf, Cond.static yX2_kindOf, Cond.code yX2_kindOf cX2_kindOf 1 (some .int), Cond.methodLink RX2 42 yX2_dueBehindMark, Cond.static yX2_dueBehindMark, Cond.code yX2_dueBehindMark cX2_dueBehindMark 2 (some .int), Cond.methodLink RX4 71 yX0_sitDown, Cond.instanceMethod yX0_sitDown, Cond.selects RX0 yX0_sitDown yX0_sitDown, Cond.initialized RX0, Cond.code yX0_sitDown cX0_sitDown 3 none, Cond.methodLink RX0 24 Lib.Math.min.name, Cond.static Lib.Math.min.name, Cond.initialized "java/lang/Math", Cond.code Lib.Math.min.name Lib.Math.min.code 2 (some .int), Cond.fieldLink RX0 30 "HeardSecond$Bench" "seats" "I", Cond.fieldLink RX0 9 "HeardSecond$Bench" "kinds" "[I", Cond.fieldLink RX0 15 "HeardSecond$Bench" "sides" "[I", Cond.fieldLink RX0 44 "HeardSecond$Bench" "patience" "I", Cond.methodLink RX0 33 yX2_codeAt, Cond.methodLink RX0 37 yX2_kindOf, Cond.static yX4_put]
def wsX4_court_r3 : List Cond := [Cond.code yX4_put cX4_put 3 none, Cond.methodLink RX4 60 yX2_wipe, Cond.instanceMethod yX2_wipe, Cond.selects RX2 yX2_wipe yX2_wipe, Cond.code yX2_wipe cX2_wipe 1 none, Cond.methodLink RX4 75 yX3_beginAll, Cond.instanceMethod yX3_beginAll, Cond.selects RX3 yX3_beginAll yX3_beginAll, Cond.initialized RX3, Cond.code yX3_beginAll cX3_beginAll 1 none, Cond.fieldLink RX3 31 "HeardSecond$Trial" "ended" "I", Cond.fieldLink RX3 34 "HeardSecond$Trial" "wonBy0" "I", Cond.fieldLink RX3 37 "HeardSecond$Trial" "wonBy1" "I", Cond.fieldLink RX3 40 "HeardSecond$Trial" "breaths" "I", Cond.fieldLink RX3 43 "HeardSecond$Trial" "told" "I", Cond.fieldLink RX3 18 "HeardSecond$Trial" "words" "[I", Cond.methodLink RX3 28 yX3_beginCase, Cond.instanceMethod yX3_beginCase, Cond.selects RX3 yX3_beginCase yX3_beginCase, Cond.code yX3_beginCase cX3_beginCase 1 none, Cond.fieldLink RX3 9 "HeardSecond$Trial" "last" "I", Cond.fieldLink RX3 15 "HeardSecond$Trial" "believed" "I", Cond.fieldLink RX3 50 "HeardSecond$Trial" "out" "I", Cond.fieldLink RX3 53 "HeardSecond$Trial" "silence" "I"]
def wsX4_court_r4 : List Cond := [Cond.static yX4_fill, Cond.code yX4_fill cX4_fill 3 none]
def wsX4_court : List Cond := .code yX4_court cX4_court 1 (some .int) :: ((wsX4_court_r1 ++ (wsX4_court_r2 ++ (wsX4_court_r3 ++ wsX4_court_r4))) ++ wsX40 ++ wsX00 ++ wsX20 ++ wsX30)
def wsX4_seat_r1 : List Cond := [Cond.fieldLink RX4 19 "HeardSecond" "bench" "LHeardSecond$Bench;", Cond.fieldLink RX4 26 "HeardSecond" "now" "LHeardSecond$Trial;", Cond.fieldLink RX4 41 "HeardSecond" "outlook" "LHeardSecond$Outlook;", Cond.methodLink RX4 81 yX0_has, Cond.instanceMethod yX0_has, Cond.selects RX0 yX0_has yX0_has, Cond.initialized RX0, Cond.code yX0_has cX0_has 2 (some .boolean), Cond.fieldLink RX0 30 "HeardSecond$Bench" "seats" "I", Cond.methodLink RX4 85 yX0_kindAt, Cond.instanceMethod yX0_kindAt, Cond.selects RX0 yX0_kindAt yX0_kindAt, Cond.code yX0_kindAt cX0_kindAt 2 (some .int), Cond.fieldLink RX0 9 "HeardSecond$Bench" "kinds" "[I", Cond.methodLink RX4 89 yX0_sideAt, Cond.instanceMethod yX0_sideAt, Cond.selects RX0 yX0_sideAt yX0_sideAt, Cond.code yX0_sideAt cX0_sideAt 2 (some .int), Cond.fieldLink RX0 15 "HeardSecond$Bench" "sides" "[I", Cond.methodLink RX4 95 yX4_isIn, Cond.static yX4_isIn, Cond.initialized RX4, Cond.code yX4_isIn cX4_isIn 2 (some .boolean), Cond.methodLink RX4 102 yX0_counts]
def wsX4_seat_r2 : List Cond := [Cond.instanceMethod yX0_counts, Cond.selects RX0 yX0_counts yX0_counts, Cond.code yX0_counts cX0_counts 5 (some .boolean), Cond.methodLink RX0 47 yX0_kindAt, Cond.methodLink RX0 58 yX0_sitsBeside, Cond.instanceMethod yX0_sitsBeside, Cond.selects RX0 yX0_sitsBeside yX0_sitsBeside, Cond.code yX0_sitsBeside cX0_sitsBeside 3 (some .boolean), Cond.methodLink RX4 110 yX4_at, Cond.static yX4_at, Cond.code yX4_at cX4_at 2 (some .int), Cond.methodLink RX4 114 yX1_aimAt, Cond.instanceMethod yX1_aimAt, Cond.selects RX1 yX1_aimAt yX1_aimAt, Cond.initialized RX1, Cond.code yX1_aimAt cX1_aimAt 6 none, Cond.fieldLink RX1 18 "HeardSecond$Outlook" "steps" "[I", Cond.methodLink RX1 82 Lib.Math.min.name, Cond.static Lib.Math.min.name, Cond.initialized "java/lang/Math", Cond.code Lib.Math.min.name Lib.Math.min.code 2 (some .int), Cond.methodLink RX1 71 yX1_tableWords, Cond.instanceMethod yX1_tableWords, Cond.selects RX1 yX1_tableWords yX1_tableWords]
def wsX4_seat_r3 : List Cond := [Cond.code yX1_tableWords cX1_tableWords 4 none, Cond.fieldLink RX1 36 "HeardSecond$Outlook" "bench" "LHeardSecond$Bench;", Cond.fieldLink RX1 40 "HeardSecond$Outlook" "now" "LHeardSecond$Trial;", Cond.fieldLink RX1 9 "HeardSecond$Outlook" "lastThen" "[I", Cond.fieldLink RX1 15 "HeardSecond$Outlook" "believedThen" "[I", Cond.methodLink RX1 50 yX0_counts, Cond.methodLink RX1 56 yX1_wordPlace, Cond.static yX1_wordPlace, Cond.code yX1_wordPlace cX1_wordPlace 2 (some .int), Cond.methodLink RX1 60 yX0_lastBehind, Cond.instanceMethod yX0_lastBehind, Cond.selects RX0 yX0_lastBehind yX0_lastBehind, Cond.code yX0_lastBehind cX0_lastBehind 2 (some .int), Cond.static yX4_put, Cond.code yX4_put cX4_put 3 none, Cond.methodLink RX1 68 yX0_believedBehind, Cond.instanceMethod yX0_believedBehind, Cond.selects RX0 yX0_believedBehind yX0_believedBehind, Cond.code yX0_believedBehind cX0_believedBehind 4 (some .int), Cond.static yX4_fill, Cond.code yX4_fill cX4_fill 3 none, Cond.methodLink RX1 78 yX1_stepsBy, Cond.instanceMethod yX1_stepsBy, Cond.selects RX1 yX1_stepsBy yX1_stepsBy]
def wsX4_seat_r4 : List Cond := [Cond.code yX1_stepsBy cX1_stepsBy 5 (some .int), Cond.methodLink RX4 117 yX1_fewestWords, Cond.instanceMethod yX1_fewestWords, Cond.selects RX1 yX1_fewestWords yX1_fewestWords, Cond.code yX1_fewestWords cX1_fewestWords 3 (some .int)]
def wsX4_seat : List Cond := .code yX4_seat cX4_seat 3 (some .int) :: ((wsX4_seat_r1 ++ (wsX4_seat_r2 ++ (wsX4_seat_r3 ++ wsX4_seat_r4))) ++ wsX40 ++ wsX30 ++ wsX00 ++ wsX10)
def wsX4_as : List Cond := .code yX4_as cX4_as 3 (some .int) :: ([.fieldLink RX4 19 "HeardSecond" "bench" "LHeardSecond$Bench;", .methodLink RX4 81 yX0_has, .instanceMethod yX0_has, .selects RX0 yX0_has yX0_has, .initialized RX0, .code yX0_has cX0_has 2 (some .boolean), .fieldLink RX0 30 "HeardSecond$Bench" "seats" "I", .methodLink RX4 120 yX0_isOf, .instanceMethod yX0_isOf, .selects RX0 yX0_isOf yX0_isOf, .code yX0_isOf cX0_isOf 4 (some .boolean), .methodLink RX0 47 yX0_kindAt, .instanceMethod yX0_kindAt, .selects RX0 yX0_kindAt yX0_kindAt, .code yX0_kindAt cX0_kindAt 2 (some .int), .fieldLink RX0 9 "HeardSecond$Bench" "kinds" "[I", .methodLink RX0 50 yX0_has] ++ wsX40 ++ wsX00)
def wsX4_breath_r1 : List Cond := [Cond.fieldLink RX4 19 "HeardSecond" "bench" "LHeardSecond$Bench;", Cond.fieldLink RX4 26 "HeardSecond" "now" "LHeardSecond$Trial;", Cond.methodLink RX4 123 yX0_namesOnlySeats, Cond.instanceMethod yX0_namesOnlySeats, Cond.selects RX0 yX0_namesOnlySeats yX0_namesOnlySeats, Cond.initialized RX0, Cond.code yX0_namesOnlySeats cX0_namesOnlySeats 2 (some .boolean), Cond.fieldLink RX0 30 "HeardSecond$Bench" "seats" "I", Cond.methodLink RX4 126 yX0_isSet, Cond.instanceMethod yX0_isSet, Cond.selects RX0 yX0_isSet yX0_isSet, Cond.code yX0_isSet cX0_isSet 1 (some .boolean), Cond.methodLink RX4 129 yX3_breathe, Cond.instanceMethod yX3_breathe, Cond.selects RX3 yX3_breathe yX3_breathe, Cond.initialized RX3, Cond.code yX3_breathe cX3_breathe 7 (some .int), Cond.fieldLink RX3 9 "HeardSecond$Trial" "last" "I", Cond.fieldLink RX3 50 "HeardSecond$Trial" "out" "I", Cond.fieldLink RX3 40 "HeardSecond$Trial" "breaths" "I", Cond.fieldLink RX3 53 "HeardSecond$Trial" "silence" "I", Cond.static yX4_isIn, Cond.initialized RX4, Cond.code yX4_isIn cX4_isIn 2 (some .boolean)]
def wsX4_breath_r2 : List Cond := [Cond.methodLink RX3 64 yX0_counts, Cond.instanceMethod yX0_counts, Cond.selects RX0 yX0_counts yX0_counts, Cond.code yX0_counts cX0_counts 5 (some .boolean), Cond.methodLink RX0 47 yX0_kindAt, Cond.instanceMethod yX0_kindAt, Cond.selects RX0 yX0_kindAt yX0_kindAt, Cond.code yX0_kindAt cX0_kindAt 2 (some .int), Cond.fieldLink RX0 9 "HeardSecond$Bench" "kinds" "[I", Cond.methodLink RX0 58 yX0_sitsBeside, Cond.instanceMethod yX0_sitsBeside, Cond.selects RX0 yX0_sitsBeside yX0_sitsBeside, Cond.code yX0_sitsBeside cX0_sitsBeside 3 (some .boolean), Cond.methodLink RX3 70 yX3_keepSilence, Cond.instanceMethod yX3_keepSilence, Cond.selects RX3 yX3_keepSilence yX3_keepSilence, Cond.code yX3_keepSilence cX3_keepSilence 2 none, Cond.fieldLink RX3 15 "HeardSecond$Trial" "believed" "I", Cond.methodLink RX3 97 yX0_sideAt, Cond.instanceMethod yX0_sideAt, Cond.selects RX0 yX0_sideAt yX0_sideAt, Cond.code yX0_sideAt cX0_sideAt 2 (some .int), Cond.fieldLink RX0 15 "HeardSecond$Bench" "sides" "[I", Cond.methodLink RX3 100 yX3_endCase]
def wsX4_breath_r3 : List Cond := [Cond.instanceMethod yX3_endCase, Cond.selects RX3 yX3_endCase yX3_endCase, Cond.code yX3_endCase cX3_endCase 2 none, Cond.fieldLink RX3 31 "HeardSecond$Trial" "ended" "I", Cond.fieldLink RX3 34 "HeardSecond$Trial" "wonBy0" "I", Cond.fieldLink RX3 37 "HeardSecond$Trial" "wonBy1" "I", Cond.methodLink RX3 28 yX3_beginCase, Cond.instanceMethod yX3_beginCase, Cond.selects RX3 yX3_beginCase yX3_beginCase, Cond.code yX3_beginCase cX3_beginCase 1 none, Cond.methodLink RX3 74 yX3_speak, Cond.instanceMethod yX3_speak, Cond.selects RX3 yX3_speak yX3_speak, Cond.code yX3_speak cX3_speak 3 none, Cond.fieldLink RX3 18 "HeardSecond$Trial" "words" "[I", Cond.static yX4_at, Cond.code yX4_at cX4_at 2 (some .int), Cond.static yX4_put, Cond.code yX4_put cX4_put 3 none, Cond.methodLink RX3 86 yX0_believedBehind, Cond.instanceMethod yX0_believedBehind, Cond.selects RX0 yX0_believedBehind yX0_believedBehind, Cond.code yX0_believedBehind cX0_believedBehind 4 (some .int), Cond.methodLink RX3 90 yX0_lastBehind]
def wsX4_breath_r4 : List Cond := [Cond.instanceMethod yX0_lastBehind, Cond.selects RX0 yX0_lastBehind yX0_lastBehind, Cond.code yX0_lastBehind cX0_lastBehind 2 (some .int)]
def wsX4_breath : List Cond := .code yX4_breath cX4_breath 2 (some .int) :: ((wsX4_breath_r1 ++ (wsX4_breath_r2 ++ (wsX4_breath_r3 ++ wsX4_breath_r4))) ++ wsX40 ++ wsX00 ++ wsX30)
def wsX4_get_r1 : List Cond := [Cond.fieldLink RX4 19 "HeardSecond" "bench" "LHeardSecond$Bench;", Cond.fieldLink RX4 41 "HeardSecond" "outlook" "LHeardSecond$Outlook;", Cond.methodLink RX4 81 yX0_has, Cond.instanceMethod yX0_has, Cond.selects RX0 yX0_has yX0_has, Cond.initialized RX0, Cond.code yX0_has cX0_has 2 (some .boolean), Cond.fieldLink RX0 30 "HeardSecond$Bench" "seats" "I", Cond.methodLink RX4 114 yX1_aimAt, Cond.instanceMethod yX1_aimAt, Cond.selects RX1 yX1_aimAt yX1_aimAt, Cond.initialized RX1, Cond.code yX1_aimAt cX1_aimAt 6 none, Cond.fieldLink RX1 18 "HeardSecond$Outlook" "steps" "[I", Cond.methodLink RX1 82 Lib.Math.min.name, Cond.static Lib.Math.min.name, Cond.initialized "java/lang/Math", Cond.code Lib.Math.min.name Lib.Math.min.code 2 (some .int), Cond.methodLink RX1 71 yX1_tableWords, Cond.instanceMethod yX1_tableWords, Cond.selects RX1 yX1_tableWords yX1_tableWords, Cond.code yX1_tableWords cX1_tableWords 4 none, Cond.fieldLink RX1 36 "HeardSecond$Outlook" "bench" "LHeardSecond$Bench;", Cond.fieldLink RX1 40 "HeardSecond$Outlook" "now" "LHeardSecond$Trial;"]
def wsX4_get_r2 : List Cond := [Cond.fieldLink RX1 9 "HeardSecond$Outlook" "lastThen" "[I", Cond.fieldLink RX1 15 "HeardSecond$Outlook" "believedThen" "[I", Cond.methodLink RX1 50 yX0_counts, Cond.instanceMethod yX0_counts, Cond.selects RX0 yX0_counts yX0_counts, Cond.code yX0_counts cX0_counts 5 (some .boolean), Cond.methodLink RX0 47 yX0_kindAt, Cond.instanceMethod yX0_kindAt, Cond.selects RX0 yX0_kindAt yX0_kindAt, Cond.code yX0_kindAt cX0_kindAt 2 (some .int), Cond.fieldLink RX0 9 "HeardSecond$Bench" "kinds" "[I", Cond.static yX4_isIn, Cond.initialized RX4, Cond.code yX4_isIn cX4_isIn 2 (some .boolean), Cond.methodLink RX0 58 yX0_sitsBeside, Cond.instanceMethod yX0_sitsBeside, Cond.selects RX0 yX0_sitsBeside yX0_sitsBeside, Cond.code yX0_sitsBeside cX0_sitsBeside 3 (some .boolean), Cond.methodLink RX1 56 yX1_wordPlace, Cond.static yX1_wordPlace, Cond.code yX1_wordPlace cX1_wordPlace 2 (some .int), Cond.methodLink RX1 60 yX0_lastBehind, Cond.instanceMethod yX0_lastBehind, Cond.selects RX0 yX0_lastBehind yX0_lastBehind]
def wsX4_get_r3 : List Cond := [Cond.code yX0_lastBehind cX0_lastBehind 2 (some .int), Cond.static yX4_put, Cond.code yX4_put cX4_put 3 none, Cond.methodLink RX1 68 yX0_believedBehind, Cond.instanceMethod yX0_believedBehind, Cond.selects RX0 yX0_believedBehind yX0_believedBehind, Cond.code yX0_believedBehind cX0_believedBehind 4 (some .int), Cond.static yX4_fill, Cond.code yX4_fill cX4_fill 3 none, Cond.methodLink RX1 78 yX1_stepsBy, Cond.instanceMethod yX1_stepsBy, Cond.selects RX1 yX1_stepsBy yX1_stepsBy, Cond.code yX1_stepsBy cX1_stepsBy 5 (some .int), Cond.static yX4_at, Cond.code yX4_at cX4_at 2 (some .int), Cond.methodLink RX4 117 yX1_fewestWords, Cond.instanceMethod yX1_fewestWords, Cond.selects RX1 yX1_fewestWords yX1_fewestWords, Cond.code yX1_fewestWords cX1_fewestWords 3 (some .int), Cond.methodLink RX4 133 yX1_firstSpeaker, Cond.instanceMethod yX1_firstSpeaker, Cond.selects RX1 yX1_firstSpeaker yX1_firstSpeaker, Cond.code yX1_firstSpeaker cX1_firstSpeaker 4 (some .int), Cond.methodLink RX1 97 yX1_fewestWords]
def wsX4_get : List Cond := .code yX4_get cX4_get 3 (some .int) :: ((wsX4_get_r1 ++ (wsX4_get_r2 ++ wsX4_get_r3)) ++ wsX40 ++ wsX00 ++ wsX10 ++ wsX30)
def wsX4_play_r1 : List Cond := [Cond.fieldLink RX4 19 "HeardSecond" "bench" "LHeardSecond$Bench;", Cond.fieldLink RX4 41 "HeardSecond" "outlook" "LHeardSecond$Outlook;", Cond.methodLink RX4 126 yX0_isSet, Cond.instanceMethod yX0_isSet, Cond.selects RX0 yX0_isSet yX0_isSet, Cond.initialized RX0, Cond.code yX0_isSet cX0_isSet 1 (some .boolean), Cond.fieldLink RX0 30 "HeardSecond$Bench" "seats" "I", Cond.methodLink RX4 136 yX1_weighReplies, Cond.instanceMethod yX1_weighReplies, Cond.selects RX1 yX1_weighReplies yX1_weighReplies, Cond.initialized RX1, Cond.code yX1_weighReplies cX1_weighReplies 4 none, Cond.fieldLink RX1 21 "HeardSecond$Outlook" "worths" "[I", Cond.methodLink RX1 71 yX1_tableWords, Cond.instanceMethod yX1_tableWords, Cond.selects RX1 yX1_tableWords yX1_tableWords, Cond.code yX1_tableWords cX1_tableWords 4 none, Cond.fieldLink RX1 36 "HeardSecond$Outlook" "bench" "LHeardSecond$Bench;", Cond.fieldLink RX1 40 "HeardSecond$Outlook" "now" "LHeardSecond$Trial;", Cond.fieldLink RX1 9 "HeardSecond$Outlook" "lastThen" "[I", Cond.fieldLink RX1 15 "HeardSecond$Outlook" "believedThen" "[I", Cond.methodLink RX1 50 yX0_counts, Cond.instanceMethod yX0_counts]
def wsX4_play_r2 : List Cond := [Cond.selects RX0 yX0_counts yX0_counts, Cond.code yX0_counts cX0_counts 5 (some .boolean), Cond.methodLink RX0 47 yX0_kindAt, Cond.instanceMethod yX0_kindAt, Cond.selects RX0 yX0_kindAt yX0_kindAt, Cond.code yX0_kindAt cX0_kindAt 2 (some .int), Cond.fieldLink RX0 9 "HeardSecond$Bench" "kinds" "[I", Cond.static yX4_isIn, Cond.initialized RX4, Cond.code yX4_isIn cX4_isIn 2 (some .boolean), Cond.methodLink RX0 58 yX0_sitsBeside, Cond.instanceMethod yX0_sitsBeside, Cond.selects RX0 yX0_sitsBeside yX0_sitsBeside, Cond.code yX0_sitsBeside cX0_sitsBeside 3 (some .boolean), Cond.methodLink RX1 56 yX1_wordPlace, Cond.static yX1_wordPlace, Cond.code yX1_wordPlace cX1_wordPlace 2 (some .int), Cond.methodLink RX1 60 yX0_lastBehind, Cond.instanceMethod yX0_lastBehind, Cond.selects RX0 yX0_lastBehind yX0_lastBehind, Cond.code yX0_lastBehind cX0_lastBehind 2 (some .int), Cond.static yX4_put, Cond.code yX4_put cX4_put 3 none, Cond.methodLink RX1 68 yX0_believedBehind]
def wsX4_play_r3 : List Cond := [Cond.instanceMethod yX0_believedBehind, Cond.selects RX0 yX0_believedBehind yX0_believedBehind, Cond.code yX0_believedBehind cX0_believedBehind 4 (some .int), Cond.methodLink RX1 100 yX1_worthPlace, Cond.static yX1_worthPlace, Cond.code yX1_worthPlace cX1_worthPlace 2 (some .int), Cond.methodLink RX1 103 yX1_worthOfEnd, Cond.instanceMethod yX1_worthOfEnd, Cond.selects RX1 yX1_worthOfEnd yX1_worthOfEnd, Cond.code yX1_worthOfEnd cX1_worthOfEnd 2 (some .int), Cond.methodLink RX1 133 yX0_sideAt, Cond.instanceMethod yX0_sideAt, Cond.selects RX0 yX0_sideAt yX0_sideAt, Cond.code yX0_sideAt cX0_sideAt 2 (some .int), Cond.fieldLink RX0 15 "HeardSecond$Bench" "sides" "[I", Cond.methodLink RX1 106 yX1_weighBreath, Cond.instanceMethod yX1_weighBreath, Cond.selects RX1 yX1_weighBreath yX1_weighBreath, Cond.code yX1_weighBreath cX1_weighBreath 6 none, Cond.fieldLink RX1 24 "HeardSecond$Outlook" "earlierWorths" "[I", Cond.methodLink RX1 110 yX1_bestByWord, Cond.instanceMethod yX1_bestByWord, Cond.selects RX1 yX1_bestByWord yX1_bestByWord, Cond.code yX1_bestByWord cX1_bestByWord 5 (some .int)]
def wsX4_play_r4 : List Cond := [Cond.methodLink RX1 120 yX1_isTurnOf, Cond.instanceMethod yX1_isTurnOf, Cond.selects RX1 yX1_isTurnOf yX1_isTurnOf, Cond.code yX1_isTurnOf cX1_isTurnOf 4 (some .boolean), Cond.static yX4_at, Cond.code yX4_at cX4_at 2 (some .int), Cond.methodLink RX1 123 yX1_worthBehind, Cond.instanceMethod yX1_worthBehind, Cond.selects RX1 yX1_worthBehind yX1_worthBehind, Cond.code yX1_worthBehind cX1_worthBehind 4 (some .int), Cond.methodLink RX1 113 yX1_better, Cond.static yX1_better, Cond.code yX1_better cX1_better 3 (some .int), Cond.methodLink RX1 130 Lib.Math.max.name, Cond.static Lib.Math.max.name, Cond.initialized "java/lang/Math", Cond.code Lib.Math.max.name Lib.Math.max.code 2 (some .int), Cond.methodLink RX1 82 Lib.Math.min.name, Cond.static Lib.Math.min.name, Cond.code Lib.Math.min.name Lib.Math.min.code 2 (some .int), Cond.static yX4_copy, Cond.code yX4_copy cX4_copy 3 none, Cond.methodLink RX4 110 yX4_at, Cond.methodLink RX4 139 yX1_bestWorth]
def wsX4_play_r5 : List Cond := [Cond.instanceMethod yX1_bestWorth, Cond.selects RX1 yX1_bestWorth yX1_bestWorth, Cond.code yX1_bestWorth cX1_bestWorth 1 (some .int), Cond.methodLink RX4 142 yX1_bestOpening, Cond.instanceMethod yX1_bestOpening, Cond.selects RX1 yX1_bestOpening yX1_bestOpening, Cond.code yX1_bestOpening cX1_bestOpening 3 (some .int), Cond.methodLink RX1 116 yX1_bestWorth]
def wsX4_play : List Cond := .code yX4_play cX4_play 3 (some .int) :: ((wsX4_play_r1 ++ (wsX4_play_r2 ++ (wsX4_play_r3 ++ (wsX4_play_r4 ++ wsX4_play_r5)))) ++ wsX40 ++ wsX00 ++ wsX10 ++ wsX30)
def wsX4_hear : List Cond := .code yX4_hear cX4_hear 3 (some .int) :: ([.fieldLink RX4 19 "HeardSecond" "bench" "LHeardSecond$Bench;", .fieldLink RX4 26 "HeardSecond" "now" "LHeardSecond$Trial;", .methodLink RX4 81 yX0_has, .instanceMethod yX0_has, .selects RX0 yX0_has yX0_has, .initialized RX0, .code yX0_has cX0_has 2 (some .boolean), .fieldLink RX0 30 "HeardSecond$Bench" "seats" "I", .methodLink RX4 148 yX3_tell, .instanceMethod yX3_tell, .selects RX3 yX3_tell yX3_tell, .initialized RX3, .code yX3_tell cX3_tell 3 none, .fieldLink RX3 43 "HeardSecond$Trial" "told" "I", .fieldLink RX3 22 "HeardSecond$Trial" "toldWords" "[I", .fieldLink RX3 25 "HeardSecond$Trial" "toldSeats" "[I", .static yX4_put, .initialized RX4, .code yX4_put cX4_put 3 none] ++ wsX40 ++ wsX30 ++ wsX00)
def wsX4_forget : List Cond := .code yX4_forget cX4_forget 2 (some .int) :: ([.fieldLink RX4 26 "HeardSecond" "now" "LHeardSecond$Trial;"] ++ wsX40 ++ wsX30)
def wsX4_rows_r1 : List Cond := [Cond.fieldLink RX4 19 "HeardSecond" "bench" "LHeardSecond$Bench;", Cond.fieldLink RX4 41 "HeardSecond" "outlook" "LHeardSecond$Outlook;", Cond.methodLink RX4 126 yX0_isSet, Cond.instanceMethod yX0_isSet, Cond.selects RX0 yX0_isSet yX0_isSet, Cond.initialized RX0, Cond.code yX0_isSet cX0_isSet 1 (some .boolean), Cond.fieldLink RX0 30 "HeardSecond$Bench" "seats" "I", Cond.methodLink RX4 152 yX1_fillWays, Cond.instanceMethod yX1_fillWays, Cond.selects RX1 yX1_fillWays yX1_fillWays, Cond.initialized RX1, Cond.code yX1_fillWays cX1_fillWays 6 none, Cond.fieldLink RX1 27 "HeardSecond$Outlook" "ways" "[I", Cond.fieldLink RX1 40 "HeardSecond$Outlook" "now" "LHeardSecond$Trial;", Cond.fieldLink RX1 9 "HeardSecond$Outlook" "lastThen" "[I", Cond.methodLink RX1 71 yX1_tableWords, Cond.instanceMethod yX1_tableWords, Cond.selects RX1 yX1_tableWords yX1_tableWords, Cond.code yX1_tableWords cX1_tableWords 4 none, Cond.fieldLink RX1 36 "HeardSecond$Outlook" "bench" "LHeardSecond$Bench;", Cond.fieldLink RX1 15 "HeardSecond$Outlook" "believedThen" "[I", Cond.methodLink RX1 50 yX0_counts, Cond.instanceMethod yX0_counts]
def wsX4_rows_r2 : List Cond := [Cond.selects RX0 yX0_counts yX0_counts, Cond.code yX0_counts cX0_counts 5 (some .boolean), Cond.methodLink RX0 47 yX0_kindAt, Cond.instanceMethod yX0_kindAt, Cond.selects RX0 yX0_kindAt yX0_kindAt, Cond.code yX0_kindAt cX0_kindAt 2 (some .int), Cond.fieldLink RX0 9 "HeardSecond$Bench" "kinds" "[I", Cond.static yX4_isIn, Cond.initialized RX4, Cond.code yX4_isIn cX4_isIn 2 (some .boolean), Cond.methodLink RX0 58 yX0_sitsBeside, Cond.instanceMethod yX0_sitsBeside, Cond.selects RX0 yX0_sitsBeside yX0_sitsBeside, Cond.code yX0_sitsBeside cX0_sitsBeside 3 (some .boolean), Cond.methodLink RX1 56 yX1_wordPlace, Cond.static yX1_wordPlace, Cond.code yX1_wordPlace cX1_wordPlace 2 (some .int), Cond.methodLink RX1 60 yX0_lastBehind, Cond.instanceMethod yX0_lastBehind, Cond.selects RX0 yX0_lastBehind yX0_lastBehind, Cond.code yX0_lastBehind cX0_lastBehind 2 (some .int), Cond.static yX4_put, Cond.code yX4_put cX4_put 3 none, Cond.methodLink RX1 68 yX0_believedBehind]
def wsX4_rows_r3 : List Cond := [Cond.instanceMethod yX0_believedBehind, Cond.selects RX0 yX0_believedBehind yX0_believedBehind, Cond.code yX0_believedBehind cX0_believedBehind 4 (some .int), Cond.static yX4_fill, Cond.code yX4_fill cX4_fill 3 none, Cond.methodLink RX1 136 yX1_rowPlace, Cond.static yX1_rowPlace, Cond.code yX1_rowPlace cX1_rowPlace 2 (some .int), Cond.methodLink RX1 139 yX3_allows, Cond.instanceMethod yX3_allows, Cond.selects RX3 yX3_allows yX3_allows, Cond.initialized RX3, Cond.code yX3_allows cX3_allows 4 (some .boolean), Cond.fieldLink RX3 43 "HeardSecond$Trial" "told" "I", Cond.fieldLink RX3 22 "HeardSecond$Trial" "toldWords" "[I", Cond.fieldLink RX3 25 "HeardSecond$Trial" "toldSeats" "[I", Cond.static yX4_at, Cond.code yX4_at cX4_at 2 (some .int), Cond.methodLink RX1 143 yX1_canBeWord, Cond.instanceMethod yX1_canBeWord, Cond.selects RX1 yX1_canBeWord yX1_canBeWord, Cond.code yX1_canBeWord cX1_canBeWord 5 (some .boolean), Cond.methodLink RX4 155 yX1_waysOf, Cond.instanceMethod yX1_waysOf]
def wsX4_rows_r4 : List Cond := [Cond.selects RX1 yX1_waysOf yX1_waysOf, Cond.code yX1_waysOf cX1_waysOf 4 (some .int), Cond.methodLink RX4 158 yX1_lastsBehind, Cond.instanceMethod yX1_lastsBehind, Cond.selects RX1 yX1_lastsBehind yX1_lastsBehind, Cond.code yX1_lastsBehind cX1_lastsBehind 4 (some .int)]
def wsX4_rows : List Cond := .code yX4_rows cX4_rows 3 (some .int) :: ((wsX4_rows_r1 ++ (wsX4_rows_r2 ++ (wsX4_rows_r3 ++ wsX4_rows_r4))) ++ wsX40 ++ wsX00 ++ wsX10 ++ wsX30)
def wsX4_when_r1 : List Cond := [Cond.fieldLink RX4 19 "HeardSecond" "bench" "LHeardSecond$Bench;", Cond.fieldLink RX4 41 "HeardSecond" "outlook" "LHeardSecond$Outlook;", Cond.methodLink RX4 126 yX0_isSet, Cond.instanceMethod yX0_isSet, Cond.selects RX0 yX0_isSet yX0_isSet, Cond.initialized RX0, Cond.code yX0_isSet cX0_isSet 1 (some .boolean), Cond.fieldLink RX0 30 "HeardSecond$Bench" "seats" "I", Cond.methodLink RX4 161 yX1_bestLook, Cond.instanceMethod yX1_bestLook, Cond.selects RX1 yX1_bestLook yX1_bestLook, Cond.initialized RX1, Cond.code yX1_bestLook cX1_bestLook 5 (some .int), Cond.methodLink RX1 146 yX1_fillWays, Cond.instanceMethod yX1_fillWays, Cond.selects RX1 yX1_fillWays yX1_fillWays, Cond.code yX1_fillWays cX1_fillWays 6 none, Cond.fieldLink RX1 27 "HeardSecond$Outlook" "ways" "[I", Cond.fieldLink RX1 40 "HeardSecond$Outlook" "now" "LHeardSecond$Trial;", Cond.fieldLink RX1 9 "HeardSecond$Outlook" "lastThen" "[I", Cond.methodLink RX1 71 yX1_tableWords, Cond.instanceMethod yX1_tableWords, Cond.selects RX1 yX1_tableWords yX1_tableWords, Cond.code yX1_tableWords cX1_tableWords 4 none]
def wsX4_when_r2 : List Cond := [Cond.fieldLink RX1 36 "HeardSecond$Outlook" "bench" "LHeardSecond$Bench;", Cond.fieldLink RX1 15 "HeardSecond$Outlook" "believedThen" "[I", Cond.methodLink RX1 50 yX0_counts, Cond.instanceMethod yX0_counts, Cond.selects RX0 yX0_counts yX0_counts, Cond.code yX0_counts cX0_counts 5 (some .boolean), Cond.methodLink RX0 47 yX0_kindAt, Cond.instanceMethod yX0_kindAt, Cond.selects RX0 yX0_kindAt yX0_kindAt, Cond.code yX0_kindAt cX0_kindAt 2 (some .int), Cond.fieldLink RX0 9 "HeardSecond$Bench" "kinds" "[I", Cond.static yX4_isIn, Cond.initialized RX4, Cond.code yX4_isIn cX4_isIn 2 (some .boolean), Cond.methodLink RX0 58 yX0_sitsBeside, Cond.instanceMethod yX0_sitsBeside, Cond.selects RX0 yX0_sitsBeside yX0_sitsBeside, Cond.code yX0_sitsBeside cX0_sitsBeside 3 (some .boolean), Cond.methodLink RX1 56 yX1_wordPlace, Cond.static yX1_wordPlace, Cond.code yX1_wordPlace cX1_wordPlace 2 (some .int), Cond.methodLink RX1 60 yX0_lastBehind, Cond.instanceMethod yX0_lastBehind, Cond.selects RX0 yX0_lastBehind yX0_lastBehind]
def wsX4_when_r3 : List Cond := [Cond.code yX0_lastBehind cX0_lastBehind 2 (some .int), Cond.static yX4_put, Cond.code yX4_put cX4_put 3 none, Cond.methodLink RX1 68 yX0_believedBehind, Cond.instanceMethod yX0_believedBehind, Cond.selects RX0 yX0_believedBehind yX0_believedBehind, Cond.code yX0_believedBehind cX0_believedBehind 4 (some .int), Cond.static yX4_fill, Cond.code yX4_fill cX4_fill 3 none, Cond.methodLink RX1 136 yX1_rowPlace, Cond.static yX1_rowPlace, Cond.code yX1_rowPlace cX1_rowPlace 2 (some .int), Cond.methodLink RX1 139 yX3_allows, Cond.instanceMethod yX3_allows, Cond.selects RX3 yX3_allows yX3_allows, Cond.initialized RX3, Cond.code yX3_allows cX3_allows 4 (some .boolean), Cond.fieldLink RX3 43 "HeardSecond$Trial" "told" "I", Cond.fieldLink RX3 22 "HeardSecond$Trial" "toldWords" "[I", Cond.fieldLink RX3 25 "HeardSecond$Trial" "toldSeats" "[I", Cond.static yX4_at, Cond.code yX4_at cX4_at 2 (some .int), Cond.methodLink RX1 143 yX1_canBeWord, Cond.instanceMethod yX1_canBeWord]
def wsX4_when_r4 : List Cond := [Cond.selects RX1 yX1_canBeWord yX1_canBeWord, Cond.code yX1_canBeWord cX1_canBeWord 5 (some .boolean), Cond.methodLink RX1 149 yX1_waysOf, Cond.instanceMethod yX1_waysOf, Cond.selects RX1 yX1_waysOf yX1_waysOf, Cond.code yX1_waysOf cX1_waysOf 4 (some .int), Cond.methodLink RX1 152 yX1_fillEndings, Cond.instanceMethod yX1_fillEndings, Cond.selects RX1 yX1_fillEndings yX1_fillEndings, Cond.code yX1_fillEndings cX1_fillEndings 5 none, Cond.fieldLink RX1 30 "HeardSecond$Outlook" "endings" "[I", Cond.methodLink RX1 155 yX1_mostLeft, Cond.instanceMethod yX1_mostLeft, Cond.selects RX1 yX1_mostLeft yX1_mostLeft, Cond.code yX1_mostLeft cX1_mostLeft 9 (some .int), Cond.fieldLink RX1 33 "HeardSecond$Outlook" "left" "[I", Cond.methodLink RX1 130 Lib.Math.max.name, Cond.static Lib.Math.max.name, Cond.initialized "java/lang/Math", Cond.code Lib.Math.max.name Lib.Math.max.code 2 (some .int)]
def wsX4_when : List Cond := .code yX4_when cX4_when 1 (some .int) :: ((wsX4_when_r1 ++ (wsX4_when_r2 ++ (wsX4_when_r3 ++ wsX4_when_r4))) ++ wsX40 ++ wsX00 ++ wsX10 ++ wsX30)
def wsX4_nextSeed : List Cond := .code yX4_nextSeed cX4_nextSeed 2 (some .long) :: ([.constantLong RX4 226 (1103515245), .constantLong RX4 228 (12345), .constantLong RX4 230 (2147483648)])
def wsX4_runSessions_r1 : List Cond := [Cond.fieldLink RX4 19 "HeardSecond" "bench" "LHeardSecond$Bench;", Cond.constantLong RX4 222 (65536), Cond.constantLong RX4 224 (3), Cond.fieldLink RX4 33 "HeardSecond" "trying" "LHeardSecond$Trial;", Cond.methodLink RX4 218 yX4_nextSeed, Cond.static yX4_nextSeed, Cond.initialized RX4, Cond.code yX4_nextSeed cX4_nextSeed 2 (some .long), Cond.constantLong RX4 226 (1103515245), Cond.constantLong RX4 228 (12345), Cond.constantLong RX4 230 (2147483648), Cond.methodLink RX4 129 yX3_breathe, Cond.instanceMethod yX3_breathe, Cond.selects RX3 yX3_breathe yX3_breathe, Cond.initialized RX3, Cond.code yX3_breathe cX3_breathe 7 (some .int), Cond.fieldLink RX3 9 "HeardSecond$Trial" "last" "I", Cond.fieldLink RX3 50 "HeardSecond$Trial" "out" "I", Cond.fieldLink RX3 40 "HeardSecond$Trial" "breaths" "I", Cond.fieldLink RX3 53 "HeardSecond$Trial" "silence" "I", Cond.static yX4_isIn, Cond.code yX4_isIn cX4_isIn 2 (some .boolean), Cond.methodLink RX3 64 yX0_counts, Cond.instanceMethod yX0_counts]
def wsX4_runSessions_r2 : List Cond := [Cond.selects RX0 yX0_counts yX0_counts, Cond.initialized RX0, Cond.code yX0_counts cX0_counts 5 (some .boolean), Cond.methodLink RX0 47 yX0_kindAt, Cond.instanceMethod yX0_kindAt, Cond.selects RX0 yX0_kindAt yX0_kindAt, Cond.code yX0_kindAt cX0_kindAt 2 (some .int), Cond.fieldLink RX0 30 "HeardSecond$Bench" "seats" "I", Cond.fieldLink RX0 9 "HeardSecond$Bench" "kinds" "[I", Cond.methodLink RX0 58 yX0_sitsBeside, Cond.instanceMethod yX0_sitsBeside, Cond.selects RX0 yX0_sitsBeside yX0_sitsBeside, Cond.code yX0_sitsBeside cX0_sitsBeside 3 (some .boolean), Cond.methodLink RX3 70 yX3_keepSilence, Cond.instanceMethod yX3_keepSilence, Cond.selects RX3 yX3_keepSilence yX3_keepSilence, Cond.code yX3_keepSilence cX3_keepSilence 2 none, Cond.fieldLink RX3 15 "HeardSecond$Trial" "believed" "I", Cond.methodLink RX3 97 yX0_sideAt, Cond.instanceMethod yX0_sideAt, Cond.selects RX0 yX0_sideAt yX0_sideAt, Cond.code yX0_sideAt cX0_sideAt 2 (some .int), Cond.fieldLink RX0 15 "HeardSecond$Bench" "sides" "[I", Cond.methodLink RX3 100 yX3_endCase]
def wsX4_runSessions_r3 : List Cond := [Cond.instanceMethod yX3_endCase, Cond.selects RX3 yX3_endCase yX3_endCase, Cond.code yX3_endCase cX3_endCase 2 none, Cond.fieldLink RX3 31 "HeardSecond$Trial" "ended" "I", Cond.fieldLink RX3 34 "HeardSecond$Trial" "wonBy0" "I", Cond.fieldLink RX3 37 "HeardSecond$Trial" "wonBy1" "I", Cond.methodLink RX3 28 yX3_beginCase, Cond.instanceMethod yX3_beginCase, Cond.selects RX3 yX3_beginCase yX3_beginCase, Cond.code yX3_beginCase cX3_beginCase 1 none, Cond.methodLink RX3 74 yX3_speak, Cond.instanceMethod yX3_speak, Cond.selects RX3 yX3_speak yX3_speak, Cond.code yX3_speak cX3_speak 3 none, Cond.fieldLink RX3 18 "HeardSecond$Trial" "words" "[I", Cond.static yX4_at, Cond.code yX4_at cX4_at 2 (some .int), Cond.static yX4_put, Cond.code yX4_put cX4_put 3 none, Cond.methodLink RX3 86 yX0_believedBehind, Cond.instanceMethod yX0_believedBehind, Cond.selects RX0 yX0_believedBehind yX0_believedBehind, Cond.code yX0_believedBehind cX0_believedBehind 4 (some .int), Cond.methodLink RX3 90 yX0_lastBehind]
def wsX4_runSessions_r4 : List Cond := [Cond.instanceMethod yX0_lastBehind, Cond.selects RX0 yX0_lastBehind yX0_lastBehind, Cond.code yX0_lastBehind cX0_lastBehind 2 (some .int)]
def wsX4_runSessions : List Cond := .code yX4_runSessions cX4_runSessions 8 (some .int) :: ((wsX4_runSessions_r1 ++ (wsX4_runSessions_r2 ++ (wsX4_runSessions_r3 ++ wsX4_runSessions_r4))) ++ wsX40 ++ wsX00 ++ wsX30)
def wsX4_sessions_r1 : List Cond := [Cond.fieldLink RX4 19 "HeardSecond" "bench" "LHeardSecond$Bench;", Cond.fieldLink RX4 33 "HeardSecond" "trying" "LHeardSecond$Trial;", Cond.fieldLink RX4 26 "HeardSecond" "now" "LHeardSecond$Trial;", Cond.methodLink RX4 126 yX0_isSet, Cond.instanceMethod yX0_isSet, Cond.selects RX0 yX0_isSet yX0_isSet, Cond.initialized RX0, Cond.code yX0_isSet cX0_isSet 1 (some .boolean), Cond.fieldLink RX0 30 "HeardSecond$Bench" "seats" "I", Cond.methodLink RX4 164 yX3_takeFrom, Cond.instanceMethod yX3_takeFrom, Cond.selects RX3 yX3_takeFrom yX3_takeFrom, Cond.initialized RX3, Cond.code yX3_takeFrom cX3_takeFrom 2 none, Cond.fieldLink RX3 9 "HeardSecond$Trial" "last" "I", Cond.fieldLink RX3 15 "HeardSecond$Trial" "believed" "I", Cond.fieldLink RX3 50 "HeardSecond$Trial" "out" "I", Cond.fieldLink RX3 53 "HeardSecond$Trial" "silence" "I", Cond.fieldLink RX3 31 "HeardSecond$Trial" "ended" "I", Cond.fieldLink RX3 34 "HeardSecond$Trial" "wonBy0" "I", Cond.fieldLink RX3 37 "HeardSecond$Trial" "wonBy1" "I", Cond.fieldLink RX3 40 "HeardSecond$Trial" "breaths" "I", Cond.fieldLink RX3 43 "HeardSecond$Trial" "told" "I", Cond.fieldLink RX3 18 "HeardSecond$Trial" "words" "[I"]
def wsX4_sessions_r2 : List Cond := [Cond.fieldLink RX3 22 "HeardSecond$Trial" "toldWords" "[I", Cond.fieldLink RX3 25 "HeardSecond$Trial" "toldSeats" "[I", Cond.static yX4_copy, Cond.initialized RX4, Cond.code yX4_copy cX4_copy 3 none, Cond.methodLink RX4 110 yX4_at, Cond.static yX4_at, Cond.code yX4_at cX4_at 2 (some .int), Cond.methodLink RX4 168 yX4_runSessions, Cond.instanceMethod yX4_runSessions, Cond.selects RX4 yX4_runSessions yX4_runSessions, Cond.code yX4_runSessions cX4_runSessions 8 (some .int), Cond.constantLong RX4 222 (65536), Cond.constantLong RX4 224 (3), Cond.methodLink RX4 218 yX4_nextSeed, Cond.static yX4_nextSeed, Cond.code yX4_nextSeed cX4_nextSeed 2 (some .long), Cond.constantLong RX4 226 (1103515245), Cond.constantLong RX4 228 (12345), Cond.constantLong RX4 230 (2147483648), Cond.methodLink RX4 129 yX3_breathe, Cond.instanceMethod yX3_breathe, Cond.selects RX3 yX3_breathe yX3_breathe, Cond.code yX3_breathe cX3_breathe 7 (some .int)]
def wsX4_sessions_r3 : List Cond := [Cond.static yX4_isIn, Cond.code yX4_isIn cX4_isIn 2 (some .boolean), Cond.methodLink RX3 64 yX0_counts, Cond.instanceMethod yX0_counts, Cond.selects RX0 yX0_counts yX0_counts, Cond.code yX0_counts cX0_counts 5 (some .boolean), Cond.methodLink RX0 47 yX0_kindAt, Cond.instanceMethod yX0_kindAt, Cond.selects RX0 yX0_kindAt yX0_kindAt, Cond.code yX0_kindAt cX0_kindAt 2 (some .int), Cond.fieldLink RX0 9 "HeardSecond$Bench" "kinds" "[I", Cond.methodLink RX0 58 yX0_sitsBeside, Cond.instanceMethod yX0_sitsBeside, Cond.selects RX0 yX0_sitsBeside yX0_sitsBeside, Cond.code yX0_sitsBeside cX0_sitsBeside 3 (some .boolean), Cond.methodLink RX3 70 yX3_keepSilence, Cond.instanceMethod yX3_keepSilence, Cond.selects RX3 yX3_keepSilence yX3_keepSilence, Cond.code yX3_keepSilence cX3_keepSilence 2 none, Cond.methodLink RX3 97 yX0_sideAt, Cond.instanceMethod yX0_sideAt, Cond.selects RX0 yX0_sideAt yX0_sideAt, Cond.code yX0_sideAt cX0_sideAt 2 (some .int), Cond.fieldLink RX0 15 "HeardSecond$Bench" "sides" "[I"]
def wsX4_sessions_r4 : List Cond := [Cond.methodLink RX3 100 yX3_endCase, Cond.instanceMethod yX3_endCase, Cond.selects RX3 yX3_endCase yX3_endCase, Cond.code yX3_endCase cX3_endCase 2 none, Cond.methodLink RX3 28 yX3_beginCase, Cond.instanceMethod yX3_beginCase, Cond.selects RX3 yX3_beginCase yX3_beginCase, Cond.code yX3_beginCase cX3_beginCase 1 none, Cond.methodLink RX3 74 yX3_speak, Cond.instanceMethod yX3_speak, Cond.selects RX3 yX3_speak yX3_speak, Cond.code yX3_speak cX3_speak 3 none, Cond.static yX4_put, Cond.code yX4_put cX4_put 3 none, Cond.methodLink RX3 86 yX0_believedBehind, Cond.instanceMethod yX0_believedBehind, Cond.selects RX0 yX0_believedBehind yX0_believedBehind, Cond.code yX0_believedBehind cX0_believedBehind 4 (some .int), Cond.methodLink RX3 90 yX0_lastBehind, Cond.instanceMethod yX0_lastBehind, Cond.selects RX0 yX0_lastBehind yX0_lastBehind, Cond.code yX0_lastBehind cX0_lastBehind 2 (some .int)]
def wsX4_sessions : List Cond := .code yX4_sessions cX4_sessions 5 (some .int) :: ((wsX4_sessions_r1 ++ (wsX4_sessions_r2 ++ (wsX4_sessions_r3 ++ wsX4_sessions_r4))) ++ wsX40 ++ wsX30 ++ wsX00)
def wsX4_image_r1 : List Cond := [Cond.fieldLink RX4 19 "HeardSecond" "bench" "LHeardSecond$Bench;", Cond.fieldLink RX4 30 "HeardSecond" "kept" "LHeardSecond$Trial;", Cond.fieldLink RX4 26 "HeardSecond" "now" "LHeardSecond$Trial;", Cond.fieldLink RX4 45 "HeardSecond" "imageKept" "Z", Cond.methodLink RX4 126 yX0_isSet, Cond.instanceMethod yX0_isSet, Cond.selects RX0 yX0_isSet yX0_isSet, Cond.initialized RX0, Cond.code yX0_isSet cX0_isSet 1 (some .boolean), Cond.fieldLink RX0 30 "HeardSecond$Bench" "seats" "I", Cond.methodLink RX4 164 yX3_takeFrom, Cond.instanceMethod yX3_takeFrom, Cond.selects RX3 yX3_takeFrom yX3_takeFrom, Cond.initialized RX3, Cond.code yX3_takeFrom cX3_takeFrom 2 none, Cond.fieldLink RX3 9 "HeardSecond$Trial" "last" "I", Cond.fieldLink RX3 15 "HeardSecond$Trial" "believed" "I", Cond.fieldLink RX3 50 "HeardSecond$Trial" "out" "I", Cond.fieldLink RX3 53 "HeardSecond$Trial" "silence" "I", Cond.fieldLink RX3 31 "HeardSecond$Trial" "ended" "I", Cond.fieldLink RX3 34 "HeardSecond$Trial" "wonBy0" "I", Cond.fieldLink RX3 37 "HeardSecond$Trial" "wonBy1" "I", Cond.fieldLink RX3 40 "HeardSecond$Trial" "breaths" "I", Cond.fieldLink RX3 43 "HeardSecond$Trial" "told" "I"]
def wsX4_image_r2 : List Cond := [Cond.fieldLink RX3 18 "HeardSecond$Trial" "words" "[I", Cond.fieldLink RX3 22 "HeardSecond$Trial" "toldWords" "[I", Cond.fieldLink RX3 25 "HeardSecond$Trial" "toldSeats" "[I", Cond.static yX4_copy, Cond.initialized RX4, Cond.code yX4_copy cX4_copy 3 none, Cond.methodLink RX4 110 yX4_at, Cond.static yX4_at, Cond.code yX4_at cX4_at 2 (some .int)]
def wsX4_image : List Cond := .code yX4_image cX4_image 1 (some .int) :: ((wsX4_image_r1 ++ wsX4_image_r2) ++ wsX40 ++ wsX30 ++ wsX00)
def wsX4_restore_r1 : List Cond := [Cond.fieldLink RX4 45 "HeardSecond" "imageKept" "Z", Cond.fieldLink RX4 26 "HeardSecond" "now" "LHeardSecond$Trial;", Cond.fieldLink RX4 30 "HeardSecond" "kept" "LHeardSecond$Trial;", Cond.methodLink RX4 164 yX3_takeFrom, Cond.instanceMethod yX3_takeFrom, Cond.selects RX3 yX3_takeFrom yX3_takeFrom, Cond.initialized RX3, Cond.code yX3_takeFrom cX3_takeFrom 2 none, Cond.fieldLink RX3 9 "HeardSecond$Trial" "last" "I", Cond.fieldLink RX3 15 "HeardSecond$Trial" "believed" "I", Cond.fieldLink RX3 50 "HeardSecond$Trial" "out" "I", Cond.fieldLink RX3 53 "HeardSecond$Trial" "silence" "I", Cond.fieldLink RX3 31 "HeardSecond$Trial" "ended" "I", Cond.fieldLink RX3 34 "HeardSecond$Trial" "wonBy0" "I", Cond.fieldLink RX3 37 "HeardSecond$Trial" "wonBy1" "I", Cond.fieldLink RX3 40 "HeardSecond$Trial" "breaths" "I", Cond.fieldLink RX3 43 "HeardSecond$Trial" "told" "I", Cond.fieldLink RX3 18 "HeardSecond$Trial" "words" "[I", Cond.fieldLink RX3 22 "HeardSecond$Trial" "toldWords" "[I", Cond.fieldLink RX3 25 "HeardSecond$Trial" "toldSeats" "[I", Cond.static yX4_copy, Cond.initialized RX4, Cond.code yX4_copy cX4_copy 3 none, Cond.methodLink RX4 110 yX4_at]
def wsX4_restore_r2 : List Cond := [Cond.static yX4_at, Cond.code yX4_at cX4_at 2 (some .int)]
def wsX4_restore : List Cond := .code yX4_restore cX4_restore 1 (some .int) :: ((wsX4_restore_r1 ++ wsX4_restore_r2) ++ wsX40 ++ wsX30)
def wsX4_count : List Cond := .code yX4_count cX4_count 2 (some .int) :: ([.fieldLink RX4 19 "HeardSecond" "bench" "LHeardSecond$Bench;", .fieldLink RX4 26 "HeardSecond" "now" "LHeardSecond$Trial;", .fieldLink RX4 10 "HeardSecond" "page" "LHeardSecond$Page;", .fieldLink RX4 49 "HeardSecond" "courtsRead" "I"] ++ wsX40 ++ wsX00 ++ wsX30 ++ wsX20)
def wsX4_digest_r1 : List Cond := [Cond.constantLong RX4 193 (907), Cond.fieldLink RX4 19 "HeardSecond" "bench" "LHeardSecond$Bench;", Cond.constantLong RX4 195 (31), Cond.fieldLink RX4 10 "HeardSecond" "page" "LHeardSecond$Page;", Cond.methodLink RX4 197 yX4_seat, Cond.instanceMethod yX4_seat, Cond.selects RX4 yX4_seat yX4_seat, Cond.initialized RX4, Cond.code yX4_seat cX4_seat 3 (some .int), Cond.fieldLink RX4 26 "HeardSecond" "now" "LHeardSecond$Trial;", Cond.fieldLink RX4 41 "HeardSecond" "outlook" "LHeardSecond$Outlook;", Cond.methodLink RX4 81 yX0_has, Cond.instanceMethod yX0_has, Cond.selects RX0 yX0_has yX0_has, Cond.initialized RX0, Cond.code yX0_has cX0_has 2 (some .boolean), Cond.fieldLink RX0 30 "HeardSecond$Bench" "seats" "I", Cond.methodLink RX4 85 yX0_kindAt, Cond.instanceMethod yX0_kindAt, Cond.selects RX0 yX0_kindAt yX0_kindAt, Cond.code yX0_kindAt cX0_kindAt 2 (some .int), Cond.fieldLink RX0 9 "HeardSecond$Bench" "kinds" "[I", Cond.methodLink RX4 89 yX0_sideAt, Cond.instanceMethod yX0_sideAt]
def wsX4_digest_r2 : List Cond := [Cond.selects RX0 yX0_sideAt yX0_sideAt, Cond.code yX0_sideAt cX0_sideAt 2 (some .int), Cond.fieldLink RX0 15 "HeardSecond$Bench" "sides" "[I", Cond.methodLink RX4 95 yX4_isIn, Cond.static yX4_isIn, Cond.code yX4_isIn cX4_isIn 2 (some .boolean), Cond.methodLink RX4 102 yX0_counts, Cond.instanceMethod yX0_counts, Cond.selects RX0 yX0_counts yX0_counts, Cond.code yX0_counts cX0_counts 5 (some .boolean), Cond.methodLink RX0 47 yX0_kindAt, Cond.methodLink RX0 58 yX0_sitsBeside, Cond.instanceMethod yX0_sitsBeside, Cond.selects RX0 yX0_sitsBeside yX0_sitsBeside, Cond.code yX0_sitsBeside cX0_sitsBeside 3 (some .boolean), Cond.methodLink RX4 110 yX4_at, Cond.static yX4_at, Cond.code yX4_at cX4_at 2 (some .int), Cond.methodLink RX4 114 yX1_aimAt, Cond.instanceMethod yX1_aimAt, Cond.selects RX1 yX1_aimAt yX1_aimAt, Cond.initialized RX1, Cond.code yX1_aimAt cX1_aimAt 6 none, Cond.fieldLink RX1 18 "HeardSecond$Outlook" "steps" "[I"]
def wsX4_digest_r3 : List Cond := [Cond.methodLink RX1 82 Lib.Math.min.name, Cond.static Lib.Math.min.name, Cond.initialized "java/lang/Math", Cond.code Lib.Math.min.name Lib.Math.min.code 2 (some .int), Cond.methodLink RX1 71 yX1_tableWords, Cond.instanceMethod yX1_tableWords, Cond.selects RX1 yX1_tableWords yX1_tableWords, Cond.code yX1_tableWords cX1_tableWords 4 none, Cond.fieldLink RX1 36 "HeardSecond$Outlook" "bench" "LHeardSecond$Bench;", Cond.fieldLink RX1 40 "HeardSecond$Outlook" "now" "LHeardSecond$Trial;", Cond.fieldLink RX1 9 "HeardSecond$Outlook" "lastThen" "[I", Cond.fieldLink RX1 15 "HeardSecond$Outlook" "believedThen" "[I", Cond.methodLink RX1 50 yX0_counts, Cond.methodLink RX1 56 yX1_wordPlace, Cond.static yX1_wordPlace, Cond.code yX1_wordPlace cX1_wordPlace 2 (some .int), Cond.methodLink RX1 60 yX0_lastBehind, Cond.instanceMethod yX0_lastBehind, Cond.selects RX0 yX0_lastBehind yX0_lastBehind, Cond.code yX0_lastBehind cX0_lastBehind 2 (some .int), Cond.static yX4_put, Cond.code yX4_put cX4_put 3 none, Cond.methodLink RX1 68 yX0_believedBehind, Cond.instanceMethod yX0_believedBehind]
def wsX4_digest_r4 : List Cond := [Cond.selects RX0 yX0_believedBehind yX0_believedBehind, Cond.code yX0_believedBehind cX0_believedBehind 4 (some .int), Cond.static yX4_fill, Cond.code yX4_fill cX4_fill 3 none, Cond.methodLink RX1 78 yX1_stepsBy, Cond.instanceMethod yX1_stepsBy, Cond.selects RX1 yX1_stepsBy yX1_stepsBy, Cond.code yX1_stepsBy cX1_stepsBy 5 (some .int), Cond.methodLink RX4 117 yX1_fewestWords, Cond.instanceMethod yX1_fewestWords, Cond.selects RX1 yX1_fewestWords yX1_fewestWords, Cond.code yX1_fewestWords cX1_fewestWords 3 (some .int), Cond.methodLink RX4 200 yX4_get, Cond.instanceMethod yX4_get, Cond.selects RX4 yX4_get yX4_get, Cond.code yX4_get cX4_get 3 (some .int), Cond.methodLink RX4 133 yX1_firstSpeaker, Cond.instanceMethod yX1_firstSpeaker, Cond.selects RX1 yX1_firstSpeaker yX1_firstSpeaker, Cond.code yX1_firstSpeaker cX1_firstSpeaker 4 (some .int), Cond.methodLink RX1 97 yX1_fewestWords, Cond.methodLink RX4 126 yX0_isSet, Cond.instanceMethod yX0_isSet, Cond.selects RX0 yX0_isSet yX0_isSet]
def wsX4_digest_r5 : List Cond := [Cond.code yX0_isSet cX0_isSet 1 (some .boolean), Cond.methodLink RX4 203 yX4_play, Cond.instanceMethod yX4_play, Cond.selects RX4 yX4_play yX4_play, Cond.code yX4_play cX4_play 3 (some .int), Cond.methodLink RX4 136 yX1_weighReplies, Cond.instanceMethod yX1_weighReplies, Cond.selects RX1 yX1_weighReplies yX1_weighReplies, Cond.code yX1_weighReplies cX1_weighReplies 4 none, Cond.fieldLink RX1 21 "HeardSecond$Outlook" "worths" "[I", Cond.methodLink RX1 100 yX1_worthPlace, Cond.static yX1_worthPlace, Cond.code yX1_worthPlace cX1_worthPlace 2 (some .int), Cond.methodLink RX1 103 yX1_worthOfEnd, Cond.instanceMethod yX1_worthOfEnd, Cond.selects RX1 yX1_worthOfEnd yX1_worthOfEnd, Cond.code yX1_worthOfEnd cX1_worthOfEnd 2 (some .int), Cond.methodLink RX1 133 yX0_sideAt, Cond.methodLink RX1 106 yX1_weighBreath, Cond.instanceMethod yX1_weighBreath, Cond.selects RX1 yX1_weighBreath yX1_weighBreath, Cond.code yX1_weighBreath cX1_weighBreath 6 none, Cond.fieldLink RX1 24 "HeardSecond$Outlook" "earlierWorths" "[I", Cond.methodLink RX1 110 yX1_bestByWord]
def wsX4_digest_r6 : List Cond := [Cond.instanceMethod yX1_bestByWord, Cond.selects RX1 yX1_bestByWord yX1_bestByWord, Cond.code yX1_bestByWord cX1_bestByWord 5 (some .int), Cond.methodLink RX1 120 yX1_isTurnOf, Cond.instanceMethod yX1_isTurnOf, Cond.selects RX1 yX1_isTurnOf yX1_isTurnOf, Cond.code yX1_isTurnOf cX1_isTurnOf 4 (some .boolean), Cond.methodLink RX1 123 yX1_worthBehind, Cond.instanceMethod yX1_worthBehind, Cond.selects RX1 yX1_worthBehind yX1_worthBehind, Cond.code yX1_worthBehind cX1_worthBehind 4 (some .int), Cond.methodLink RX1 113 yX1_better, Cond.static yX1_better, Cond.code yX1_better cX1_better 3 (some .int), Cond.methodLink RX1 130 Lib.Math.max.name, Cond.static Lib.Math.max.name, Cond.code Lib.Math.max.name Lib.Math.max.code 2 (some .int), Cond.static yX4_copy, Cond.code yX4_copy cX4_copy 3 none, Cond.methodLink RX4 139 yX1_bestWorth, Cond.instanceMethod yX1_bestWorth, Cond.selects RX1 yX1_bestWorth yX1_bestWorth, Cond.code yX1_bestWorth cX1_bestWorth 1 (some .int), Cond.methodLink RX4 142 yX1_bestOpening]
def wsX4_digest_r7 : List Cond := [Cond.instanceMethod yX1_bestOpening, Cond.selects RX1 yX1_bestOpening yX1_bestOpening, Cond.code yX1_bestOpening cX1_bestOpening 3 (some .int), Cond.methodLink RX1 116 yX1_bestWorth, Cond.methodLink RX4 206 yX4_rows, Cond.instanceMethod yX4_rows, Cond.selects RX4 yX4_rows yX4_rows, Cond.code yX4_rows cX4_rows 3 (some .int), Cond.methodLink RX4 152 yX1_fillWays, Cond.instanceMethod yX1_fillWays, Cond.selects RX1 yX1_fillWays yX1_fillWays, Cond.code yX1_fillWays cX1_fillWays 6 none, Cond.fieldLink RX1 27 "HeardSecond$Outlook" "ways" "[I", Cond.methodLink RX1 136 yX1_rowPlace, Cond.static yX1_rowPlace, Cond.code yX1_rowPlace cX1_rowPlace 2 (some .int), Cond.methodLink RX1 139 yX3_allows, Cond.instanceMethod yX3_allows, Cond.selects RX3 yX3_allows yX3_allows, Cond.initialized RX3, Cond.code yX3_allows cX3_allows 4 (some .boolean), Cond.fieldLink RX3 43 "HeardSecond$Trial" "told" "I", Cond.fieldLink RX3 22 "HeardSecond$Trial" "toldWords" "[I", Cond.fieldLink RX3 25 "HeardSecond$Trial" "toldSeats" "[I"]
def wsX4_digest_r8 : List Cond := [Cond.methodLink RX1 143 yX1_canBeWord, Cond.instanceMethod yX1_canBeWord, Cond.selects RX1 yX1_canBeWord yX1_canBeWord, Cond.code yX1_canBeWord cX1_canBeWord 5 (some .boolean), Cond.methodLink RX4 155 yX1_waysOf, Cond.instanceMethod yX1_waysOf, Cond.selects RX1 yX1_waysOf yX1_waysOf, Cond.code yX1_waysOf cX1_waysOf 4 (some .int), Cond.methodLink RX4 158 yX1_lastsBehind, Cond.instanceMethod yX1_lastsBehind, Cond.selects RX1 yX1_lastsBehind yX1_lastsBehind, Cond.code yX1_lastsBehind cX1_lastsBehind 4 (some .int), Cond.methodLink RX4 209 yX4_when, Cond.instanceMethod yX4_when, Cond.selects RX4 yX4_when yX4_when, Cond.code yX4_when cX4_when 1 (some .int), Cond.methodLink RX4 161 yX1_bestLook, Cond.instanceMethod yX1_bestLook, Cond.selects RX1 yX1_bestLook yX1_bestLook, Cond.code yX1_bestLook cX1_bestLook 5 (some .int), Cond.methodLink RX1 146 yX1_fillWays, Cond.methodLink RX1 149 yX1_waysOf, Cond.methodLink RX1 152 yX1_fillEndings, Cond.instanceMethod yX1_fillEndings]
def wsX4_digest_r9 : List Cond := [Cond.selects RX1 yX1_fillEndings yX1_fillEndings, Cond.code yX1_fillEndings cX1_fillEndings 5 none, Cond.fieldLink RX1 30 "HeardSecond$Outlook" "endings" "[I", Cond.methodLink RX1 155 yX1_mostLeft, Cond.instanceMethod yX1_mostLeft, Cond.selects RX1 yX1_mostLeft yX1_mostLeft, Cond.code yX1_mostLeft cX1_mostLeft 9 (some .int), Cond.fieldLink RX1 33 "HeardSecond$Outlook" "left" "[I", Cond.methodLink RX4 212 yX2_codeAt, Cond.instanceMethod yX2_codeAt, Cond.selects RX2 yX2_codeAt yX2_codeAt, Cond.initialized RX2, Cond.code yX2_codeAt cX2_codeAt 2 (some .int), Cond.fieldLink RX2 15 "HeardSecond$Page" "length" "I", Cond.fieldLink RX2 9 "HeardSecond$Page" "codes" "[I", Cond.methodLink RX4 215 yX4_count, Cond.instanceMethod yX4_count, Cond.selects RX4 yX4_count yX4_count, Cond.code yX4_count cX4_count 2 (some .int), Cond.fieldLink RX4 49 "HeardSecond" "courtsRead" "I"]
def wsX4_digest : List Cond := .code yX4_digest cX4_digest 5 (some .long) :: ((wsX4_digest_r1 ++ (wsX4_digest_r2 ++ (wsX4_digest_r3 ++ (wsX4_digest_r4 ++ (wsX4_digest_r5 ++ (wsX4_digest_r6 ++ (wsX4_digest_r7 ++ (wsX4_digest_r8 ++ wsX4_digest_r9)))))))) ++ wsX40 ++ wsX00 ++ wsX20 ++ wsX30 ++ wsX10)
def wsX5_init : List Cond := .code yX5_init cX5_init 1 none :: ([.methodLink RX5 1 objectInit, .instanceMethod objectInit, .code objectInit ⟨#[0xb1]⟩ 1 none, .arrayClass .int, .fieldLink RX5 7 "HeardSecondModel" "page" "[I", .fieldLink RX5 13 "HeardSecondModel" "read" "[I", .fieldLink RX5 16 "HeardSecondModel" "rows" "[I", .fieldLink RX5 19 "HeardSecondModel" "far" "[I", .fieldLink RX5 22 "HeardSecondModel" "worth" "[I", .fieldLink RX5 25 "HeardSecondModel" "ahead" "[I", .fieldLink RX5 28 "HeardSecondModel" "heards" "[I", .fieldLink RX5 31 "HeardSecondModel" "ways" "[I", .fieldLink RX5 34 "HeardSecondModel" "onward" "[I", .fieldLink RX5 37 "HeardSecondModel" "parts" "[I", .fieldLink RX5 40 "HeardSecondModel" "keptRows" "[I", .fieldLink RX5 43 "HeardSecondModel" "keptNumbers" "[I", .fieldLink RX5 46 "HeardSecondModel" "keptHeards" "[I", .fieldLink RX5 49 "HeardSecondModel" "savedRows" "[I", .fieldLink RX5 52 "HeardSecondModel" "savedNumbers" "[I", .fieldLink RX5 55 "HeardSecondModel" "keptCourt" "I", .fieldLink RX5 59 "HeardSecondModel" "now" "I"] ++ wsX50)
def wsX5_in : List Cond := .code yX5_in cX5_in 6 (some .boolean) :: ([])
def wsX5_copy : List Cond := .code yX5_copy cX5_copy 3 none :: ([])
def wsX5_letter : List Cond := .code yX5_letter cX5_letter 2 (some .int) :: ([.constantLong RX5 62 (126), .fieldLink RX5 68 "HeardSecondModel" "pageMany" "I", .fieldLink RX5 7 "HeardSecondModel" "page" "[I", .methodLink RX5 64 yX5_in, .static yX5_in, .initialized RX5, .code yX5_in cX5_in 6 (some .boolean)] ++ wsX50)
def wsX5_blank : List Cond := .code yX5_blank cX5_blank 2 (some .int) :: ([.fieldLink RX5 68 "HeardSecondModel" "pageMany" "I"] ++ wsX50)
def wsX5_kindBy : List Cond := .code yX5_kindBy cX5_kindBy 1 (some .int) :: ([])
def wsX5_go : List Cond := .code yX5_go cX5_go 4 (some .boolean) :: ([.fieldLink RX5 71 "HeardSecondModel" "state" "I", .fieldLink RX5 13 "HeardSecondModel" "read" "[I", .fieldLink RX5 74 "HeardSecondModel" "readMany" "I", .fieldLink RX5 81 "HeardSecondModel" "readPatience" "I", .constantLong RX5 84 (9), .methodLink RX5 77 yX5_kindBy, .static yX5_kindBy, .initialized RX5, .code yX5_kindBy cX5_kindBy 1 (some .int), .methodLink RX5 64 yX5_in, .static yX5_in, .code yX5_in cX5_in 6 (some .boolean)] ++ wsX50)
def wsX5_faultOf : List Cond := .code yX5_faultOf cX5_faultOf 2 (some .int) :: ([.fieldLink RX5 74 "HeardSecondModel" "readMany" "I", .fieldLink RX5 71 "HeardSecondModel" "state" "I", .fieldLink RX5 68 "HeardSecondModel" "pageMany" "I", .fieldLink RX5 7 "HeardSecondModel" "page" "[I", .methodLink RX5 86 yX5_go, .instanceMethod yX5_go, .selects RX5 yX5_go yX5_go, .initialized RX5, .code yX5_go cX5_go 4 (some .boolean), .fieldLink RX5 13 "HeardSecondModel" "read" "[I", .fieldLink RX5 81 "HeardSecondModel" "readPatience" "I", .constantLong RX5 84 (9), .methodLink RX5 77 yX5_kindBy, .static yX5_kindBy, .code yX5_kindBy cX5_kindBy 1 (some .int), .methodLink RX5 64 yX5_in, .static yX5_in, .code yX5_in cX5_in 6 (some .boolean)] ++ wsX50)
def wsX5_fault : List Cond := .code yX5_fault cX5_fault 1 (some .int) :: ([.methodLink RX5 90 yX5_faultOf, .instanceMethod yX5_faultOf, .selects RX5 yX5_faultOf yX5_faultOf, .initialized RX5, .code yX5_faultOf cX5_faultOf 2 (some .int), .fieldLink RX5 74 "HeardSecondModel" "readMany" "I", .fieldLink RX5 71 "HeardSecondModel" "state" "I", .fieldLink RX5 68 "HeardSecondModel" "pageMany" "I", .fieldLink RX5 7 "HeardSecondModel" "page" "[I", .methodLink RX5 86 yX5_go, .instanceMethod yX5_go, .selects RX5 yX5_go yX5_go, .code yX5_go cX5_go 4 (some .boolean), .fieldLink RX5 13 "HeardSecondModel" "read" "[I", .fieldLink RX5 81 "HeardSecondModel" "readPatience" "I", .constantLong RX5 84 (9), .methodLink RX5 77 yX5_kindBy, .static yX5_kindBy, .code yX5_kindBy cX5_kindBy 1 (some .int), .methodLink RX5 64 yX5_in, .static yX5_in, .code yX5_in cX5_in 6 (some .boolean)] ++ wsX50)
def wsX5_court_r1 : List Cond := [Cond.fieldLink RX5 68 "HeardSecondModel" "pageMany" "I", Cond.fieldLink RX5 71 "HeardSecondModel" "state" "I", Cond.fieldLink RX5 74 "HeardSecondModel" "readMany" "I", Cond.fieldLink RX5 94 "HeardSecondModel" "seats" "I", Cond.fieldLink RX5 81 "HeardSecondModel" "readPatience" "I", Cond.fieldLink RX5 97 "HeardSecondModel" "patience" "I", Cond.fieldLink RX5 16 "HeardSecondModel" "rows" "[I", Cond.fieldLink RX5 13 "HeardSecondModel" "read" "[I", Cond.fieldLink RX5 59 "HeardSecondModel" "now" "I", Cond.fieldLink RX5 100 "HeardSecondModel" "out" "I", Cond.fieldLink RX5 103 "HeardSecondModel" "silence" "I", Cond.fieldLink RX5 106 "HeardSecondModel" "cases" "I", Cond.fieldLink RX5 109 "HeardSecondModel" "wonBy0" "I", Cond.fieldLink RX5 112 "HeardSecondModel" "wonBy1" "I", Cond.fieldLink RX5 115 "HeardSecondModel" "breaths" "I", Cond.fieldLink RX5 118 "HeardSecondModel" "heardMany" "I", Cond.fieldLink RX5 121 "HeardSecondModel" "courtsRead" "I", Cond.methodLink RX5 90 yX5_faultOf, Cond.instanceMethod yX5_faultOf, Cond.selects RX5 yX5_faultOf yX5_faultOf, Cond.initialized RX5, Cond.code yX5_faultOf cX5_faultOf 2 (some .int), Cond.fieldLink RX5 7 "HeardSecondModel" "page" "[I", Cond.methodLink RX5 86 yX5_go]
def wsX5_court_r2 : List Cond := [Cond.instanceMethod yX5_go, Cond.selects RX5 yX5_go yX5_go, Cond.code yX5_go cX5_go 4 (some .boolean), Cond.constantLong RX5 84 (9), Cond.methodLink RX5 77 yX5_kindBy, Cond.static yX5_kindBy, Cond.code yX5_kindBy cX5_kindBy 1 (some .int), Cond.methodLink RX5 64 yX5_in, Cond.static yX5_in, Cond.code yX5_in cX5_in 6 (some .boolean)]
def wsX5_court : List Cond := .code yX5_court cX5_court 2 (some .int) :: ((wsX5_court_r1 ++ wsX5_court_r2) ++ wsX50)
def wsX5_lacks : List Cond := .code yX5_lacks cX5_lacks 1 (some .boolean) :: ([.fieldLink RX5 94 "HeardSecondModel" "seats" "I"] ++ wsX50)
def wsX5_isSeat : List Cond := .code yX5_isSeat cX5_isSeat 2 (some .boolean) :: ([.fieldLink RX5 94 "HeardSecondModel" "seats" "I", .methodLink RX5 64 yX5_in, .static yX5_in, .initialized RX5, .code yX5_in cX5_in 6 (some .boolean)] ++ wsX50)
def wsX5_counts : List Cond := .code yX5_counts cX5_counts 6 (some .boolean) :: ([.fieldLink RX5 16 "HeardSecondModel" "rows" "[I", .fieldLink RX5 100 "HeardSecondModel" "out" "I"] ++ wsX50)
def wsX5_behind : List Cond := .code yX5_behind cX5_behind 7 (some .int) :: ([.fieldLink RX5 16 "HeardSecondModel" "rows" "[I", .fieldLink RX5 94 "HeardSecondModel" "seats" "I"] ++ wsX50)
def wsX5_ones : List Cond := .code yX5_ones cX5_ones 3 (some .int) :: ([])
def wsX5_counting : List Cond := .code yX5_counting cX5_counting 4 (some .int) :: ([.fieldLink RX5 94 "HeardSecondModel" "seats" "I", .fieldLink RX5 59 "HeardSecondModel" "now" "I", .methodLink RX5 124 yX5_counts, .instanceMethod yX5_counts, .selects RX5 yX5_counts yX5_counts, .initialized RX5, .code yX5_counts cX5_counts 6 (some .boolean), .fieldLink RX5 16 "HeardSecondModel" "rows" "[I", .fieldLink RX5 100 "HeardSecondModel" "out" "I"] ++ wsX50)
def wsX5_ends : List Cond := .code yX5_ends cX5_ends 2 none :: ([.fieldLink RX5 59 "HeardSecondModel" "now" "I", .fieldLink RX5 106 "HeardSecondModel" "cases" "I", .fieldLink RX5 109 "HeardSecondModel" "wonBy0" "I", .fieldLink RX5 16 "HeardSecondModel" "rows" "[I", .fieldLink RX5 112 "HeardSecondModel" "wonBy1" "I", .fieldLink RX5 100 "HeardSecondModel" "out" "I", .fieldLink RX5 103 "HeardSecondModel" "silence" "I"] ++ wsX50)
def wsX5_goesBy_r1 : List Cond := [Cond.fieldLink RX5 115 "HeardSecondModel" "breaths" "I", Cond.fieldLink RX5 103 "HeardSecondModel" "silence" "I", Cond.fieldLink RX5 94 "HeardSecondModel" "seats" "I", Cond.fieldLink RX5 59 "HeardSecondModel" "now" "I", Cond.fieldLink RX5 16 "HeardSecondModel" "rows" "[I", Cond.fieldLink RX5 100 "HeardSecondModel" "out" "I", Cond.fieldLink RX5 97 "HeardSecondModel" "patience" "I", Cond.methodLink RX5 128 yX5_counting, Cond.instanceMethod yX5_counting, Cond.selects RX5 yX5_counting yX5_counting, Cond.initialized RX5, Cond.code yX5_counting cX5_counting 4 (some .int), Cond.methodLink RX5 124 yX5_counts, Cond.instanceMethod yX5_counts, Cond.selects RX5 yX5_counts yX5_counts, Cond.code yX5_counts cX5_counts 6 (some .boolean), Cond.methodLink RX5 131 yX5_ones, Cond.static yX5_ones, Cond.code yX5_ones cX5_ones 3 (some .int), Cond.methodLink RX5 134 yX5_behind, Cond.instanceMethod yX5_behind, Cond.selects RX5 yX5_behind yX5_behind, Cond.code yX5_behind cX5_behind 7 (some .int), Cond.methodLink RX5 138 yX5_ends]
def wsX5_goesBy_r2 : List Cond := [Cond.instanceMethod yX5_ends, Cond.selects RX5 yX5_ends yX5_ends, Cond.code yX5_ends cX5_ends 2 none, Cond.fieldLink RX5 106 "HeardSecondModel" "cases" "I", Cond.fieldLink RX5 109 "HeardSecondModel" "wonBy0" "I", Cond.fieldLink RX5 112 "HeardSecondModel" "wonBy1" "I"]
def wsX5_goesBy : List Cond := .code yX5_goesBy cX5_goesBy 5 (some .int) :: ((wsX5_goesBy_r1 ++ wsX5_goesBy_r2) ++ wsX50)
def wsX5_breath_r1 : List Cond := [Cond.fieldLink RX5 94 "HeardSecondModel" "seats" "I", Cond.methodLink RX5 64 yX5_in, Cond.static yX5_in, Cond.initialized RX5, Cond.code yX5_in cX5_in 6 (some .boolean), Cond.methodLink RX5 141 yX5_lacks, Cond.instanceMethod yX5_lacks, Cond.selects RX5 yX5_lacks yX5_lacks, Cond.code yX5_lacks cX5_lacks 1 (some .boolean), Cond.methodLink RX5 145 yX5_goesBy, Cond.instanceMethod yX5_goesBy, Cond.selects RX5 yX5_goesBy yX5_goesBy, Cond.code yX5_goesBy cX5_goesBy 5 (some .int), Cond.fieldLink RX5 115 "HeardSecondModel" "breaths" "I", Cond.fieldLink RX5 103 "HeardSecondModel" "silence" "I", Cond.fieldLink RX5 59 "HeardSecondModel" "now" "I", Cond.fieldLink RX5 16 "HeardSecondModel" "rows" "[I", Cond.fieldLink RX5 100 "HeardSecondModel" "out" "I", Cond.fieldLink RX5 97 "HeardSecondModel" "patience" "I", Cond.methodLink RX5 128 yX5_counting, Cond.instanceMethod yX5_counting, Cond.selects RX5 yX5_counting yX5_counting, Cond.code yX5_counting cX5_counting 4 (some .int), Cond.methodLink RX5 124 yX5_counts]
def wsX5_breath_r2 : List Cond := [Cond.instanceMethod yX5_counts, Cond.selects RX5 yX5_counts yX5_counts, Cond.code yX5_counts cX5_counts 6 (some .boolean), Cond.methodLink RX5 131 yX5_ones, Cond.static yX5_ones, Cond.code yX5_ones cX5_ones 3 (some .int), Cond.methodLink RX5 134 yX5_behind, Cond.instanceMethod yX5_behind, Cond.selects RX5 yX5_behind yX5_behind, Cond.code yX5_behind cX5_behind 7 (some .int), Cond.methodLink RX5 138 yX5_ends, Cond.instanceMethod yX5_ends, Cond.selects RX5 yX5_ends yX5_ends, Cond.code yX5_ends cX5_ends 2 none, Cond.fieldLink RX5 106 "HeardSecondModel" "cases" "I", Cond.fieldLink RX5 109 "HeardSecondModel" "wonBy0" "I", Cond.fieldLink RX5 112 "HeardSecondModel" "wonBy1" "I"]
def wsX5_breath : List Cond := .code yX5_breath cX5_breath 2 (some .int) :: ((wsX5_breath_r1 ++ wsX5_breath_r2) ++ wsX50)
def wsX5_layFar : List Cond := .code yX5_layFar cX5_layFar 6 none :: ([.fieldLink RX5 19 "HeardSecondModel" "far" "[I", .fieldLink RX5 94 "HeardSecondModel" "seats" "I", .methodLink RX5 124 yX5_counts, .instanceMethod yX5_counts, .selects RX5 yX5_counts yX5_counts, .initialized RX5, .code yX5_counts cX5_counts 6 (some .boolean), .fieldLink RX5 16 "HeardSecondModel" "rows" "[I", .fieldLink RX5 100 "HeardSecondModel" "out" "I", .methodLink RX5 134 yX5_behind, .instanceMethod yX5_behind, .selects RX5 yX5_behind yX5_behind, .code yX5_behind cX5_behind 7 (some .int)] ++ wsX50)
def wsX5_fewFrom : List Cond := .code yX5_fewFrom cX5_fewFrom 5 (some .int) :: ([.fieldLink RX5 19 "HeardSecondModel" "far" "[I", .methodLink RX5 148 yX5_layFar, .instanceMethod yX5_layFar, .selects RX5 yX5_layFar yX5_layFar, .initialized RX5, .code yX5_layFar cX5_layFar 6 none, .fieldLink RX5 94 "HeardSecondModel" "seats" "I", .methodLink RX5 124 yX5_counts, .instanceMethod yX5_counts, .selects RX5 yX5_counts yX5_counts, .code yX5_counts cX5_counts 6 (some .boolean), .fieldLink RX5 16 "HeardSecondModel" "rows" "[I", .fieldLink RX5 100 "HeardSecondModel" "out" "I", .methodLink RX5 134 yX5_behind, .instanceMethod yX5_behind, .selects RX5 yX5_behind yX5_behind, .code yX5_behind cX5_behind 7 (some .int)] ++ wsX50)
def wsX5_firstOf : List Cond := .code yX5_firstOf cX5_firstOf 4 (some .int) :: ([.fieldLink RX5 59 "HeardSecondModel" "now" "I", .fieldLink RX5 94 "HeardSecondModel" "seats" "I", .methodLink RX5 152 yX5_fewFrom, .instanceMethod yX5_fewFrom, .selects RX5 yX5_fewFrom yX5_fewFrom, .initialized RX5, .code yX5_fewFrom cX5_fewFrom 5 (some .int), .fieldLink RX5 19 "HeardSecondModel" "far" "[I", .methodLink RX5 148 yX5_layFar, .instanceMethod yX5_layFar, .selects RX5 yX5_layFar yX5_layFar, .code yX5_layFar cX5_layFar 6 none, .methodLink RX5 124 yX5_counts, .instanceMethod yX5_counts, .selects RX5 yX5_counts yX5_counts, .code yX5_counts cX5_counts 6 (some .boolean), .fieldLink RX5 16 "HeardSecondModel" "rows" "[I", .fieldLink RX5 100 "HeardSecondModel" "out" "I", .methodLink RX5 134 yX5_behind, .instanceMethod yX5_behind, .selects RX5 yX5_behind yX5_behind, .code yX5_behind cX5_behind 7 (some .int)] ++ wsX50)
def wsX5_tell : List Cond := .code yX5_tell cX5_tell 3 (some .int) :: ([.fieldLink RX5 16 "HeardSecondModel" "rows" "[I", .fieldLink RX5 100 "HeardSecondModel" "out" "I", .fieldLink RX5 59 "HeardSecondModel" "now" "I", .methodLink RX5 124 yX5_counts, .instanceMethod yX5_counts, .selects RX5 yX5_counts yX5_counts, .initialized RX5, .code yX5_counts cX5_counts 6 (some .boolean), .methodLink RX5 152 yX5_fewFrom, .instanceMethod yX5_fewFrom, .selects RX5 yX5_fewFrom yX5_fewFrom, .code yX5_fewFrom cX5_fewFrom 5 (some .int), .fieldLink RX5 19 "HeardSecondModel" "far" "[I", .methodLink RX5 148 yX5_layFar, .instanceMethod yX5_layFar, .selects RX5 yX5_layFar yX5_layFar, .code yX5_layFar cX5_layFar 6 none, .fieldLink RX5 94 "HeardSecondModel" "seats" "I", .methodLink RX5 134 yX5_behind, .instanceMethod yX5_behind, .selects RX5 yX5_behind yX5_behind, .code yX5_behind cX5_behind 7 (some .int)] ++ wsX50)
def wsX5_seat_r1 : List Cond := [Cond.methodLink RX5 155 yX5_isSeat, Cond.instanceMethod yX5_isSeat, Cond.selects RX5 yX5_isSeat yX5_isSeat, Cond.initialized RX5, Cond.code yX5_isSeat cX5_isSeat 2 (some .boolean), Cond.fieldLink RX5 94 "HeardSecondModel" "seats" "I", Cond.methodLink RX5 64 yX5_in, Cond.static yX5_in, Cond.code yX5_in cX5_in 6 (some .boolean), Cond.methodLink RX5 158 yX5_tell, Cond.instanceMethod yX5_tell, Cond.selects RX5 yX5_tell yX5_tell, Cond.code yX5_tell cX5_tell 3 (some .int), Cond.fieldLink RX5 16 "HeardSecondModel" "rows" "[I", Cond.fieldLink RX5 100 "HeardSecondModel" "out" "I", Cond.fieldLink RX5 59 "HeardSecondModel" "now" "I", Cond.methodLink RX5 124 yX5_counts, Cond.instanceMethod yX5_counts, Cond.selects RX5 yX5_counts yX5_counts, Cond.code yX5_counts cX5_counts 6 (some .boolean), Cond.methodLink RX5 152 yX5_fewFrom, Cond.instanceMethod yX5_fewFrom, Cond.selects RX5 yX5_fewFrom yX5_fewFrom, Cond.code yX5_fewFrom cX5_fewFrom 5 (some .int)]
def wsX5_seat_r2 : List Cond := [Cond.fieldLink RX5 19 "HeardSecondModel" "far" "[I", Cond.methodLink RX5 148 yX5_layFar, Cond.instanceMethod yX5_layFar, Cond.selects RX5 yX5_layFar yX5_layFar, Cond.code yX5_layFar cX5_layFar 6 none, Cond.methodLink RX5 134 yX5_behind, Cond.instanceMethod yX5_behind, Cond.selects RX5 yX5_behind yX5_behind, Cond.code yX5_behind cX5_behind 7 (some .int)]
def wsX5_seat : List Cond := .code yX5_seat cX5_seat 3 (some .int) :: ((wsX5_seat_r1 ++ wsX5_seat_r2) ++ wsX50)
def wsX5_as : List Cond := .code yX5_as cX5_as 5 (some .int) :: ([.constantLong RX5 161 (4), .fieldLink RX5 16 "HeardSecondModel" "rows" "[I", .methodLink RX5 155 yX5_isSeat, .instanceMethod yX5_isSeat, .selects RX5 yX5_isSeat yX5_isSeat, .initialized RX5, .code yX5_isSeat cX5_isSeat 2 (some .boolean), .fieldLink RX5 94 "HeardSecondModel" "seats" "I", .methodLink RX5 64 yX5_in, .static yX5_in, .code yX5_in cX5_in 6 (some .boolean)] ++ wsX50)
def wsX5_get_r1 : List Cond := [Cond.fieldLink RX5 59 "HeardSecondModel" "now" "I", Cond.methodLink RX5 155 yX5_isSeat, Cond.instanceMethod yX5_isSeat, Cond.selects RX5 yX5_isSeat yX5_isSeat, Cond.initialized RX5, Cond.code yX5_isSeat cX5_isSeat 2 (some .boolean), Cond.fieldLink RX5 94 "HeardSecondModel" "seats" "I", Cond.methodLink RX5 64 yX5_in, Cond.static yX5_in, Cond.code yX5_in cX5_in 6 (some .boolean), Cond.methodLink RX5 152 yX5_fewFrom, Cond.instanceMethod yX5_fewFrom, Cond.selects RX5 yX5_fewFrom yX5_fewFrom, Cond.code yX5_fewFrom cX5_fewFrom 5 (some .int), Cond.fieldLink RX5 19 "HeardSecondModel" "far" "[I", Cond.methodLink RX5 148 yX5_layFar, Cond.instanceMethod yX5_layFar, Cond.selects RX5 yX5_layFar yX5_layFar, Cond.code yX5_layFar cX5_layFar 6 none, Cond.methodLink RX5 124 yX5_counts, Cond.instanceMethod yX5_counts, Cond.selects RX5 yX5_counts yX5_counts, Cond.code yX5_counts cX5_counts 6 (some .boolean), Cond.fieldLink RX5 16 "HeardSecondModel" "rows" "[I"]
def wsX5_get_r2 : List Cond := [Cond.fieldLink RX5 100 "HeardSecondModel" "out" "I", Cond.methodLink RX5 134 yX5_behind, Cond.instanceMethod yX5_behind, Cond.selects RX5 yX5_behind yX5_behind, Cond.code yX5_behind cX5_behind 7 (some .int), Cond.methodLink RX5 163 yX5_firstOf, Cond.instanceMethod yX5_firstOf, Cond.selects RX5 yX5_firstOf yX5_firstOf, Cond.code yX5_firstOf cX5_firstOf 4 (some .int)]
def wsX5_get : List Cond := .code yX5_get cX5_get 3 (some .int) :: ((wsX5_get_r1 ++ wsX5_get_r2) ++ wsX50)
def wsX5_worthAtEnd : List Cond := .code yX5_worthAtEnd cX5_worthAtEnd 3 (some .int) :: ([.fieldLink RX5 16 "HeardSecondModel" "rows" "[I", .methodLink RX5 155 yX5_isSeat, .instanceMethod yX5_isSeat, .selects RX5 yX5_isSeat yX5_isSeat, .initialized RX5, .code yX5_isSeat cX5_isSeat 2 (some .boolean), .fieldLink RX5 94 "HeardSecondModel" "seats" "I", .methodLink RX5 64 yX5_in, .static yX5_in, .code yX5_in cX5_in 6 (some .boolean)] ++ wsX50)
def wsX5_layPlay_r1 : List Cond := [Cond.fieldLink RX5 22 "HeardSecondModel" "worth" "[I", Cond.fieldLink RX5 94 "HeardSecondModel" "seats" "I", Cond.fieldLink RX5 16 "HeardSecondModel" "rows" "[I", Cond.fieldLink RX5 25 "HeardSecondModel" "ahead" "[I", Cond.fieldLink RX5 59 "HeardSecondModel" "now" "I", Cond.fieldLink RX5 169 "HeardSecondModel" "playFirst" "I", Cond.methodLink RX5 166 yX5_worthAtEnd, Cond.instanceMethod yX5_worthAtEnd, Cond.selects RX5 yX5_worthAtEnd yX5_worthAtEnd, Cond.initialized RX5, Cond.code yX5_worthAtEnd cX5_worthAtEnd 3 (some .int), Cond.methodLink RX5 155 yX5_isSeat, Cond.instanceMethod yX5_isSeat, Cond.selects RX5 yX5_isSeat yX5_isSeat, Cond.code yX5_isSeat cX5_isSeat 2 (some .boolean), Cond.methodLink RX5 64 yX5_in, Cond.static yX5_in, Cond.code yX5_in cX5_in 6 (some .boolean), Cond.methodLink RX5 124 yX5_counts, Cond.instanceMethod yX5_counts, Cond.selects RX5 yX5_counts yX5_counts, Cond.code yX5_counts cX5_counts 6 (some .boolean), Cond.fieldLink RX5 100 "HeardSecondModel" "out" "I", Cond.methodLink RX5 134 yX5_behind]
def wsX5_layPlay_r2 : List Cond := [Cond.instanceMethod yX5_behind, Cond.selects RX5 yX5_behind yX5_behind, Cond.code yX5_behind cX5_behind 7 (some .int), Cond.methodLink RX5 172 yX5_copy, Cond.static yX5_copy, Cond.code yX5_copy cX5_copy 3 none]
def wsX5_layPlay : List Cond := .code yX5_layPlay cX5_layPlay 10 (some .int) :: ((wsX5_layPlay_r1 ++ wsX5_layPlay_r2) ++ wsX50)
def wsX5_playOf_r1 : List Cond := [Cond.fieldLink RX5 169 "HeardSecondModel" "playFirst" "I", Cond.methodLink RX5 176 yX5_layPlay, Cond.instanceMethod yX5_layPlay, Cond.selects RX5 yX5_layPlay yX5_layPlay, Cond.initialized RX5, Cond.code yX5_layPlay cX5_layPlay 10 (some .int), Cond.fieldLink RX5 22 "HeardSecondModel" "worth" "[I", Cond.fieldLink RX5 94 "HeardSecondModel" "seats" "I", Cond.fieldLink RX5 16 "HeardSecondModel" "rows" "[I", Cond.fieldLink RX5 25 "HeardSecondModel" "ahead" "[I", Cond.fieldLink RX5 59 "HeardSecondModel" "now" "I", Cond.methodLink RX5 166 yX5_worthAtEnd, Cond.instanceMethod yX5_worthAtEnd, Cond.selects RX5 yX5_worthAtEnd yX5_worthAtEnd, Cond.code yX5_worthAtEnd cX5_worthAtEnd 3 (some .int), Cond.methodLink RX5 155 yX5_isSeat, Cond.instanceMethod yX5_isSeat, Cond.selects RX5 yX5_isSeat yX5_isSeat, Cond.code yX5_isSeat cX5_isSeat 2 (some .boolean), Cond.methodLink RX5 64 yX5_in, Cond.static yX5_in, Cond.code yX5_in cX5_in 6 (some .boolean), Cond.methodLink RX5 124 yX5_counts, Cond.instanceMethod yX5_counts]
def wsX5_playOf_r2 : List Cond := [Cond.selects RX5 yX5_counts yX5_counts, Cond.code yX5_counts cX5_counts 6 (some .boolean), Cond.fieldLink RX5 100 "HeardSecondModel" "out" "I", Cond.methodLink RX5 134 yX5_behind, Cond.instanceMethod yX5_behind, Cond.selects RX5 yX5_behind yX5_behind, Cond.code yX5_behind cX5_behind 7 (some .int), Cond.methodLink RX5 172 yX5_copy, Cond.static yX5_copy, Cond.code yX5_copy cX5_copy 3 none]
def wsX5_playOf : List Cond := .code yX5_playOf cX5_playOf 4 (some .int) :: ((wsX5_playOf_r1 ++ wsX5_playOf_r2) ++ wsX50)
def wsX5_play_r1 : List Cond := [Cond.constantLong RX5 179 (6), Cond.methodLink RX5 64 yX5_in, Cond.static yX5_in, Cond.initialized RX5, Cond.code yX5_in cX5_in 6 (some .boolean), Cond.methodLink RX5 141 yX5_lacks, Cond.instanceMethod yX5_lacks, Cond.selects RX5 yX5_lacks yX5_lacks, Cond.code yX5_lacks cX5_lacks 1 (some .boolean), Cond.fieldLink RX5 94 "HeardSecondModel" "seats" "I", Cond.methodLink RX5 181 yX5_playOf, Cond.instanceMethod yX5_playOf, Cond.selects RX5 yX5_playOf yX5_playOf, Cond.code yX5_playOf cX5_playOf 4 (some .int), Cond.fieldLink RX5 169 "HeardSecondModel" "playFirst" "I", Cond.methodLink RX5 176 yX5_layPlay, Cond.instanceMethod yX5_layPlay, Cond.selects RX5 yX5_layPlay yX5_layPlay, Cond.code yX5_layPlay cX5_layPlay 10 (some .int), Cond.fieldLink RX5 22 "HeardSecondModel" "worth" "[I", Cond.fieldLink RX5 16 "HeardSecondModel" "rows" "[I", Cond.fieldLink RX5 25 "HeardSecondModel" "ahead" "[I", Cond.fieldLink RX5 59 "HeardSecondModel" "now" "I", Cond.methodLink RX5 166 yX5_worthAtEnd]
def wsX5_play_r2 : List Cond := [Cond.instanceMethod yX5_worthAtEnd, Cond.selects RX5 yX5_worthAtEnd yX5_worthAtEnd, Cond.code yX5_worthAtEnd cX5_worthAtEnd 3 (some .int), Cond.methodLink RX5 155 yX5_isSeat, Cond.instanceMethod yX5_isSeat, Cond.selects RX5 yX5_isSeat yX5_isSeat, Cond.code yX5_isSeat cX5_isSeat 2 (some .boolean), Cond.methodLink RX5 124 yX5_counts, Cond.instanceMethod yX5_counts, Cond.selects RX5 yX5_counts yX5_counts, Cond.code yX5_counts cX5_counts 6 (some .boolean), Cond.fieldLink RX5 100 "HeardSecondModel" "out" "I", Cond.methodLink RX5 134 yX5_behind, Cond.instanceMethod yX5_behind, Cond.selects RX5 yX5_behind yX5_behind, Cond.code yX5_behind cX5_behind 7 (some .int), Cond.methodLink RX5 172 yX5_copy, Cond.static yX5_copy, Cond.code yX5_copy cX5_copy 3 none]
def wsX5_play : List Cond := .code yX5_play cX5_play 3 (some .int) :: ((wsX5_play_r1 ++ wsX5_play_r2) ++ wsX50)
def wsX5_hear : List Cond := .code yX5_hear cX5_hear 3 (some .int) :: ([.constantLong RX5 184 (8), .fieldLink RX5 118 "HeardSecondModel" "heardMany" "I", .fieldLink RX5 28 "HeardSecondModel" "heards" "[I", .methodLink RX5 64 yX5_in, .static yX5_in, .initialized RX5, .code yX5_in cX5_in 6 (some .boolean), .methodLink RX5 155 yX5_isSeat, .instanceMethod yX5_isSeat, .selects RX5 yX5_isSeat yX5_isSeat, .code yX5_isSeat cX5_isSeat 2 (some .boolean), .fieldLink RX5 94 "HeardSecondModel" "seats" "I"] ++ wsX50)
def wsX5_forget : List Cond := .code yX5_forget cX5_forget 2 (some .int) :: ([.fieldLink RX5 118 "HeardSecondModel" "heardMany" "I"] ++ wsX50)
def wsX5_isHeard : List Cond := .code yX5_isHeard cX5_isHeard 5 (some .boolean) :: ([.fieldLink RX5 118 "HeardSecondModel" "heardMany" "I", .fieldLink RX5 28 "HeardSecondModel" "heards" "[I"] ++ wsX50)
def wsX5_layWays : List Cond := .code yX5_layWays cX5_layWays 5 none :: ([.fieldLink RX5 31 "HeardSecondModel" "ways" "[I", .fieldLink RX5 34 "HeardSecondModel" "onward" "[I", .fieldLink RX5 59 "HeardSecondModel" "now" "I", .fieldLink RX5 94 "HeardSecondModel" "seats" "I", .methodLink RX5 186 yX5_isHeard, .instanceMethod yX5_isHeard, .selects RX5 yX5_isHeard yX5_isHeard, .initialized RX5, .code yX5_isHeard cX5_isHeard 5 (some .boolean), .fieldLink RX5 118 "HeardSecondModel" "heardMany" "I", .fieldLink RX5 28 "HeardSecondModel" "heards" "[I", .methodLink RX5 124 yX5_counts, .instanceMethod yX5_counts, .selects RX5 yX5_counts yX5_counts, .code yX5_counts cX5_counts 6 (some .boolean), .fieldLink RX5 16 "HeardSecondModel" "rows" "[I", .fieldLink RX5 100 "HeardSecondModel" "out" "I", .methodLink RX5 134 yX5_behind, .instanceMethod yX5_behind, .selects RX5 yX5_behind yX5_behind, .code yX5_behind cX5_behind 7 (some .int)] ++ wsX50)
def wsX5_rowsOf_r1 : List Cond := [Cond.fieldLink RX5 31 "HeardSecondModel" "ways" "[I", Cond.methodLink RX5 189 yX5_layWays, Cond.instanceMethod yX5_layWays, Cond.selects RX5 yX5_layWays yX5_layWays, Cond.initialized RX5, Cond.code yX5_layWays cX5_layWays 5 none, Cond.fieldLink RX5 34 "HeardSecondModel" "onward" "[I", Cond.fieldLink RX5 59 "HeardSecondModel" "now" "I", Cond.fieldLink RX5 94 "HeardSecondModel" "seats" "I", Cond.methodLink RX5 186 yX5_isHeard, Cond.instanceMethod yX5_isHeard, Cond.selects RX5 yX5_isHeard yX5_isHeard, Cond.code yX5_isHeard cX5_isHeard 5 (some .boolean), Cond.fieldLink RX5 118 "HeardSecondModel" "heardMany" "I", Cond.fieldLink RX5 28 "HeardSecondModel" "heards" "[I", Cond.methodLink RX5 124 yX5_counts, Cond.instanceMethod yX5_counts, Cond.selects RX5 yX5_counts yX5_counts, Cond.code yX5_counts cX5_counts 6 (some .boolean), Cond.fieldLink RX5 16 "HeardSecondModel" "rows" "[I", Cond.fieldLink RX5 100 "HeardSecondModel" "out" "I", Cond.methodLink RX5 134 yX5_behind, Cond.instanceMethod yX5_behind, Cond.selects RX5 yX5_behind yX5_behind]
def wsX5_rowsOf_r2 : List Cond := [Cond.code yX5_behind cX5_behind 7 (some .int)]
def wsX5_rowsOf : List Cond := .code yX5_rowsOf cX5_rowsOf 8 (some .int) :: ((wsX5_rowsOf_r1 ++ wsX5_rowsOf_r2) ++ wsX50)
def wsX5_rows_r1 : List Cond := [Cond.constantLong RX5 179 (6), Cond.methodLink RX5 64 yX5_in, Cond.static yX5_in, Cond.initialized RX5, Cond.code yX5_in cX5_in 6 (some .boolean), Cond.methodLink RX5 141 yX5_lacks, Cond.instanceMethod yX5_lacks, Cond.selects RX5 yX5_lacks yX5_lacks, Cond.code yX5_lacks cX5_lacks 1 (some .boolean), Cond.fieldLink RX5 94 "HeardSecondModel" "seats" "I", Cond.methodLink RX5 192 yX5_rowsOf, Cond.instanceMethod yX5_rowsOf, Cond.selects RX5 yX5_rowsOf yX5_rowsOf, Cond.code yX5_rowsOf cX5_rowsOf 8 (some .int), Cond.fieldLink RX5 31 "HeardSecondModel" "ways" "[I", Cond.methodLink RX5 189 yX5_layWays, Cond.instanceMethod yX5_layWays, Cond.selects RX5 yX5_layWays yX5_layWays, Cond.code yX5_layWays cX5_layWays 5 none, Cond.fieldLink RX5 34 "HeardSecondModel" "onward" "[I", Cond.fieldLink RX5 59 "HeardSecondModel" "now" "I", Cond.methodLink RX5 186 yX5_isHeard, Cond.instanceMethod yX5_isHeard, Cond.selects RX5 yX5_isHeard yX5_isHeard]
def wsX5_rows_r2 : List Cond := [Cond.code yX5_isHeard cX5_isHeard 5 (some .boolean), Cond.fieldLink RX5 118 "HeardSecondModel" "heardMany" "I", Cond.fieldLink RX5 28 "HeardSecondModel" "heards" "[I", Cond.methodLink RX5 124 yX5_counts, Cond.instanceMethod yX5_counts, Cond.selects RX5 yX5_counts yX5_counts, Cond.code yX5_counts cX5_counts 6 (some .boolean), Cond.fieldLink RX5 16 "HeardSecondModel" "rows" "[I", Cond.fieldLink RX5 100 "HeardSecondModel" "out" "I", Cond.methodLink RX5 134 yX5_behind, Cond.instanceMethod yX5_behind, Cond.selects RX5 yX5_behind yX5_behind, Cond.code yX5_behind cX5_behind 7 (some .int)]
def wsX5_rows : List Cond := .code yX5_rows cX5_rows 3 (some .int) :: ((wsX5_rows_r1 ++ wsX5_rows_r2) ++ wsX50)
def wsX5_whenOf_r1 : List Cond := [Cond.fieldLink RX5 37 "HeardSecondModel" "parts" "[I", Cond.fieldLink RX5 31 "HeardSecondModel" "ways" "[I", Cond.fieldLink RX5 34 "HeardSecondModel" "onward" "[I", Cond.methodLink RX5 189 yX5_layWays, Cond.instanceMethod yX5_layWays, Cond.selects RX5 yX5_layWays yX5_layWays, Cond.initialized RX5, Cond.code yX5_layWays cX5_layWays 5 none, Cond.fieldLink RX5 59 "HeardSecondModel" "now" "I", Cond.fieldLink RX5 94 "HeardSecondModel" "seats" "I", Cond.methodLink RX5 186 yX5_isHeard, Cond.instanceMethod yX5_isHeard, Cond.selects RX5 yX5_isHeard yX5_isHeard, Cond.code yX5_isHeard cX5_isHeard 5 (some .boolean), Cond.fieldLink RX5 118 "HeardSecondModel" "heardMany" "I", Cond.fieldLink RX5 28 "HeardSecondModel" "heards" "[I", Cond.methodLink RX5 124 yX5_counts, Cond.instanceMethod yX5_counts, Cond.selects RX5 yX5_counts yX5_counts, Cond.code yX5_counts cX5_counts 6 (some .boolean), Cond.fieldLink RX5 16 "HeardSecondModel" "rows" "[I", Cond.fieldLink RX5 100 "HeardSecondModel" "out" "I", Cond.methodLink RX5 134 yX5_behind, Cond.instanceMethod yX5_behind]
def wsX5_whenOf_r2 : List Cond := [Cond.selects RX5 yX5_behind yX5_behind, Cond.code yX5_behind cX5_behind 7 (some .int)]
def wsX5_whenOf : List Cond := .code yX5_whenOf cX5_whenOf 6 (some .int) :: ((wsX5_whenOf_r1 ++ wsX5_whenOf_r2) ++ wsX50)
def wsX5_when_r1 : List Cond := [Cond.methodLink RX5 141 yX5_lacks, Cond.instanceMethod yX5_lacks, Cond.selects RX5 yX5_lacks yX5_lacks, Cond.initialized RX5, Cond.code yX5_lacks cX5_lacks 1 (some .boolean), Cond.fieldLink RX5 94 "HeardSecondModel" "seats" "I", Cond.methodLink RX5 195 yX5_whenOf, Cond.instanceMethod yX5_whenOf, Cond.selects RX5 yX5_whenOf yX5_whenOf, Cond.code yX5_whenOf cX5_whenOf 6 (some .int), Cond.fieldLink RX5 37 "HeardSecondModel" "parts" "[I", Cond.fieldLink RX5 31 "HeardSecondModel" "ways" "[I", Cond.fieldLink RX5 34 "HeardSecondModel" "onward" "[I", Cond.methodLink RX5 189 yX5_layWays, Cond.instanceMethod yX5_layWays, Cond.selects RX5 yX5_layWays yX5_layWays, Cond.code yX5_layWays cX5_layWays 5 none, Cond.fieldLink RX5 59 "HeardSecondModel" "now" "I", Cond.methodLink RX5 186 yX5_isHeard, Cond.instanceMethod yX5_isHeard, Cond.selects RX5 yX5_isHeard yX5_isHeard, Cond.code yX5_isHeard cX5_isHeard 5 (some .boolean), Cond.fieldLink RX5 118 "HeardSecondModel" "heardMany" "I", Cond.fieldLink RX5 28 "HeardSecondModel" "heards" "[I"]
def wsX5_when_r2 : List Cond := [Cond.methodLink RX5 124 yX5_counts, Cond.instanceMethod yX5_counts, Cond.selects RX5 yX5_counts yX5_counts, Cond.code yX5_counts cX5_counts 6 (some .boolean), Cond.fieldLink RX5 16 "HeardSecondModel" "rows" "[I", Cond.fieldLink RX5 100 "HeardSecondModel" "out" "I", Cond.methodLink RX5 134 yX5_behind, Cond.instanceMethod yX5_behind, Cond.selects RX5 yX5_behind yX5_behind, Cond.code yX5_behind cX5_behind 7 (some .int)]
def wsX5_when : List Cond := .code yX5_when cX5_when 1 (some .int) :: ((wsX5_when_r1 ++ wsX5_when_r2) ++ wsX50)
def wsX5_layAll : List Cond := .code yX5_layAll cX5_layAll 2 none :: ([.fieldLink RX5 59 "HeardSecondModel" "now" "I", .fieldLink RX5 100 "HeardSecondModel" "out" "I", .fieldLink RX5 103 "HeardSecondModel" "silence" "I", .fieldLink RX5 106 "HeardSecondModel" "cases" "I", .fieldLink RX5 109 "HeardSecondModel" "wonBy0" "I", .fieldLink RX5 112 "HeardSecondModel" "wonBy1" "I", .fieldLink RX5 115 "HeardSecondModel" "breaths" "I"] ++ wsX50)
def wsX5_layBack : List Cond := .code yX5_layBack cX5_layBack 2 none :: ([.fieldLink RX5 59 "HeardSecondModel" "now" "I", .fieldLink RX5 100 "HeardSecondModel" "out" "I", .fieldLink RX5 103 "HeardSecondModel" "silence" "I", .fieldLink RX5 106 "HeardSecondModel" "cases" "I", .fieldLink RX5 109 "HeardSecondModel" "wonBy0" "I", .fieldLink RX5 112 "HeardSecondModel" "wonBy1" "I", .fieldLink RX5 115 "HeardSecondModel" "breaths" "I"] ++ wsX50)
def wsX5_image_r1 : List Cond := [Cond.fieldLink RX5 16 "HeardSecondModel" "rows" "[I", Cond.fieldLink RX5 40 "HeardSecondModel" "keptRows" "[I", Cond.fieldLink RX5 28 "HeardSecondModel" "heards" "[I", Cond.fieldLink RX5 46 "HeardSecondModel" "keptHeards" "[I", Cond.fieldLink RX5 43 "HeardSecondModel" "keptNumbers" "[I", Cond.fieldLink RX5 118 "HeardSecondModel" "heardMany" "I", Cond.fieldLink RX5 202 "HeardSecondModel" "keptHeardMany" "I", Cond.fieldLink RX5 121 "HeardSecondModel" "courtsRead" "I", Cond.fieldLink RX5 55 "HeardSecondModel" "keptCourt" "I", Cond.fieldLink RX5 115 "HeardSecondModel" "breaths" "I", Cond.methodLink RX5 141 yX5_lacks, Cond.instanceMethod yX5_lacks, Cond.selects RX5 yX5_lacks yX5_lacks, Cond.initialized RX5, Cond.code yX5_lacks cX5_lacks 1 (some .boolean), Cond.fieldLink RX5 94 "HeardSecondModel" "seats" "I", Cond.methodLink RX5 172 yX5_copy, Cond.static yX5_copy, Cond.code yX5_copy cX5_copy 3 none, Cond.methodLink RX5 198 yX5_layAll, Cond.instanceMethod yX5_layAll, Cond.selects RX5 yX5_layAll yX5_layAll, Cond.code yX5_layAll cX5_layAll 2 none, Cond.fieldLink RX5 59 "HeardSecondModel" "now" "I"]
def wsX5_image_r2 : List Cond := [Cond.fieldLink RX5 100 "HeardSecondModel" "out" "I", Cond.fieldLink RX5 103 "HeardSecondModel" "silence" "I", Cond.fieldLink RX5 106 "HeardSecondModel" "cases" "I", Cond.fieldLink RX5 109 "HeardSecondModel" "wonBy0" "I", Cond.fieldLink RX5 112 "HeardSecondModel" "wonBy1" "I"]
def wsX5_image : List Cond := .code yX5_image cX5_image 1 (some .int) :: ((wsX5_image_r1 ++ wsX5_image_r2) ++ wsX50)
def wsX5_restore : List Cond := .code yX5_restore cX5_restore 1 (some .int) :: ([.fieldLink RX5 55 "HeardSecondModel" "keptCourt" "I", .fieldLink RX5 121 "HeardSecondModel" "courtsRead" "I", .fieldLink RX5 40 "HeardSecondModel" "keptRows" "[I", .fieldLink RX5 16 "HeardSecondModel" "rows" "[I", .fieldLink RX5 46 "HeardSecondModel" "keptHeards" "[I", .fieldLink RX5 28 "HeardSecondModel" "heards" "[I", .fieldLink RX5 43 "HeardSecondModel" "keptNumbers" "[I", .fieldLink RX5 202 "HeardSecondModel" "keptHeardMany" "I", .fieldLink RX5 118 "HeardSecondModel" "heardMany" "I", .fieldLink RX5 115 "HeardSecondModel" "breaths" "I", .methodLink RX5 172 yX5_copy, .static yX5_copy, .initialized RX5, .code yX5_copy cX5_copy 3 none, .methodLink RX5 205 yX5_layBack, .instanceMethod yX5_layBack, .selects RX5 yX5_layBack yX5_layBack, .code yX5_layBack cX5_layBack 2 none, .fieldLink RX5 59 "HeardSecondModel" "now" "I", .fieldLink RX5 100 "HeardSecondModel" "out" "I", .fieldLink RX5 103 "HeardSecondModel" "silence" "I", .fieldLink RX5 106 "HeardSecondModel" "cases" "I", .fieldLink RX5 109 "HeardSecondModel" "wonBy0" "I", .fieldLink RX5 112 "HeardSecondModel" "wonBy1" "I"] ++ wsX50)
def wsX5_draw : List Cond := .code yX5_draw cX5_draw 2 (some .int) :: ([.constantLong RX5 208 (1103515245), .fieldLink RX5 210 "HeardSecondModel" "seedNow" "I", .constantLong RX5 213 (12345), .constantLong RX5 215 (2147483647), .constant RX5 217 (65536)] ++ wsX50)
def wsX5_sessions_r1 : List Cond := [Cond.constantLong RX5 218 (60), Cond.constantLong RX5 220 (2), Cond.fieldLink RX5 16 "HeardSecondModel" "rows" "[I", Cond.fieldLink RX5 49 "HeardSecondModel" "savedRows" "[I", Cond.fieldLink RX5 52 "HeardSecondModel" "savedNumbers" "[I", Cond.fieldLink RX5 210 "HeardSecondModel" "seedNow" "I", Cond.fieldLink RX5 94 "HeardSecondModel" "seats" "I", Cond.fieldLink RX5 106 "HeardSecondModel" "cases" "I", Cond.fieldLink RX5 109 "HeardSecondModel" "wonBy0" "I", Cond.methodLink RX5 64 yX5_in, Cond.static yX5_in, Cond.initialized RX5, Cond.code yX5_in cX5_in 6 (some .boolean), Cond.methodLink RX5 141 yX5_lacks, Cond.instanceMethod yX5_lacks, Cond.selects RX5 yX5_lacks yX5_lacks, Cond.code yX5_lacks cX5_lacks 1 (some .boolean), Cond.methodLink RX5 172 yX5_copy, Cond.static yX5_copy, Cond.code yX5_copy cX5_copy 3 none, Cond.methodLink RX5 198 yX5_layAll, Cond.instanceMethod yX5_layAll, Cond.selects RX5 yX5_layAll yX5_layAll, Cond.code yX5_layAll cX5_layAll 2 none]
def wsX5_sessions_r2 : List Cond := [Cond.fieldLink RX5 59 "HeardSecondModel" "now" "I", Cond.fieldLink RX5 100 "HeardSecondModel" "out" "I", Cond.fieldLink RX5 103 "HeardSecondModel" "silence" "I", Cond.fieldLink RX5 112 "HeardSecondModel" "wonBy1" "I", Cond.fieldLink RX5 115 "HeardSecondModel" "breaths" "I", Cond.methodLink RX5 222 yX5_draw, Cond.instanceMethod yX5_draw, Cond.selects RX5 yX5_draw yX5_draw, Cond.code yX5_draw cX5_draw 2 (some .int), Cond.constantLong RX5 208 (1103515245), Cond.constantLong RX5 213 (12345), Cond.constantLong RX5 215 (2147483647), Cond.constant RX5 217 (65536), Cond.methodLink RX5 145 yX5_goesBy, Cond.instanceMethod yX5_goesBy, Cond.selects RX5 yX5_goesBy yX5_goesBy, Cond.code yX5_goesBy cX5_goesBy 5 (some .int), Cond.fieldLink RX5 97 "HeardSecondModel" "patience" "I", Cond.methodLink RX5 128 yX5_counting, Cond.instanceMethod yX5_counting, Cond.selects RX5 yX5_counting yX5_counting, Cond.code yX5_counting cX5_counting 4 (some .int), Cond.methodLink RX5 124 yX5_counts, Cond.instanceMethod yX5_counts]
def wsX5_sessions_r3 : List Cond := [Cond.selects RX5 yX5_counts yX5_counts, Cond.code yX5_counts cX5_counts 6 (some .boolean), Cond.methodLink RX5 131 yX5_ones, Cond.static yX5_ones, Cond.code yX5_ones cX5_ones 3 (some .int), Cond.methodLink RX5 134 yX5_behind, Cond.instanceMethod yX5_behind, Cond.selects RX5 yX5_behind yX5_behind, Cond.code yX5_behind cX5_behind 7 (some .int), Cond.methodLink RX5 138 yX5_ends, Cond.instanceMethod yX5_ends, Cond.selects RX5 yX5_ends yX5_ends, Cond.code yX5_ends cX5_ends 2 none, Cond.methodLink RX5 205 yX5_layBack, Cond.instanceMethod yX5_layBack, Cond.selects RX5 yX5_layBack yX5_layBack, Cond.code yX5_layBack cX5_layBack 2 none]
def wsX5_sessions : List Cond := .code yX5_sessions cX5_sessions 7 (some .int) :: ((wsX5_sessions_r1 ++ (wsX5_sessions_r2 ++ wsX5_sessions_r3)) ++ wsX50)
def wsX5_countOf : List Cond := .code yX5_countOf cX5_countOf 4 (some .int) :: ([.fieldLink RX5 59 "HeardSecondModel" "now" "I", .fieldLink RX5 94 "HeardSecondModel" "seats" "I", .fieldLink RX5 97 "HeardSecondModel" "patience" "I", .fieldLink RX5 103 "HeardSecondModel" "silence" "I", .fieldLink RX5 106 "HeardSecondModel" "cases" "I", .fieldLink RX5 109 "HeardSecondModel" "wonBy0" "I", .fieldLink RX5 112 "HeardSecondModel" "wonBy1" "I", .fieldLink RX5 115 "HeardSecondModel" "breaths" "I", .fieldLink RX5 118 "HeardSecondModel" "heardMany" "I", .fieldLink RX5 68 "HeardSecondModel" "pageMany" "I", .fieldLink RX5 121 "HeardSecondModel" "courtsRead" "I"] ++ wsX50)
def wsX5_count : List Cond := .code yX5_count cX5_count 2 (some .int) :: ([.methodLink RX5 225 yX5_countOf, .instanceMethod yX5_countOf, .selects RX5 yX5_countOf yX5_countOf, .initialized RX5, .code yX5_countOf cX5_countOf 4 (some .int), .fieldLink RX5 59 "HeardSecondModel" "now" "I", .fieldLink RX5 94 "HeardSecondModel" "seats" "I", .fieldLink RX5 97 "HeardSecondModel" "patience" "I", .fieldLink RX5 103 "HeardSecondModel" "silence" "I", .fieldLink RX5 106 "HeardSecondModel" "cases" "I", .fieldLink RX5 109 "HeardSecondModel" "wonBy0" "I", .fieldLink RX5 112 "HeardSecondModel" "wonBy1" "I", .fieldLink RX5 115 "HeardSecondModel" "breaths" "I", .fieldLink RX5 118 "HeardSecondModel" "heardMany" "I", .fieldLink RX5 68 "HeardSecondModel" "pageMany" "I", .fieldLink RX5 121 "HeardSecondModel" "courtsRead" "I"] ++ wsX50)
def wsX5_say : List Cond := .code yX5_say cX5_say 3 none :: ([.constantLong RX5 228 (31), .fieldLink RX5 230 "HeardSecondModel" "hash" "J"] ++ wsX50)
def wsX5_sayCourt_r1 : List Cond := [Cond.methodLink RX5 181 yX5_playOf, Cond.instanceMethod yX5_playOf, Cond.selects RX5 yX5_playOf yX5_playOf, Cond.initialized RX5, Cond.code yX5_playOf cX5_playOf 4 (some .int), Cond.fieldLink RX5 169 "HeardSecondModel" "playFirst" "I", Cond.methodLink RX5 176 yX5_layPlay, Cond.instanceMethod yX5_layPlay, Cond.selects RX5 yX5_layPlay yX5_layPlay, Cond.code yX5_layPlay cX5_layPlay 10 (some .int), Cond.fieldLink RX5 22 "HeardSecondModel" "worth" "[I", Cond.fieldLink RX5 94 "HeardSecondModel" "seats" "I", Cond.fieldLink RX5 16 "HeardSecondModel" "rows" "[I", Cond.fieldLink RX5 25 "HeardSecondModel" "ahead" "[I", Cond.fieldLink RX5 59 "HeardSecondModel" "now" "I", Cond.methodLink RX5 166 yX5_worthAtEnd, Cond.instanceMethod yX5_worthAtEnd, Cond.selects RX5 yX5_worthAtEnd yX5_worthAtEnd, Cond.code yX5_worthAtEnd cX5_worthAtEnd 3 (some .int), Cond.methodLink RX5 155 yX5_isSeat, Cond.instanceMethod yX5_isSeat, Cond.selects RX5 yX5_isSeat yX5_isSeat, Cond.code yX5_isSeat cX5_isSeat 2 (some .boolean), Cond.methodLink RX5 64 yX5_in]
def wsX5_sayCourt_r2 : List Cond := [Cond.static yX5_in, Cond.code yX5_in cX5_in 6 (some .boolean), Cond.methodLink RX5 124 yX5_counts, Cond.instanceMethod yX5_counts, Cond.selects RX5 yX5_counts yX5_counts, Cond.code yX5_counts cX5_counts 6 (some .boolean), Cond.fieldLink RX5 100 "HeardSecondModel" "out" "I", Cond.methodLink RX5 134 yX5_behind, Cond.instanceMethod yX5_behind, Cond.selects RX5 yX5_behind yX5_behind, Cond.code yX5_behind cX5_behind 7 (some .int), Cond.methodLink RX5 172 yX5_copy, Cond.static yX5_copy, Cond.code yX5_copy cX5_copy 3 none, Cond.methodLink RX5 234 yX5_say, Cond.instanceMethod yX5_say, Cond.selects RX5 yX5_say yX5_say, Cond.code yX5_say cX5_say 3 none, Cond.constantLong RX5 228 (31), Cond.fieldLink RX5 230 "HeardSecondModel" "hash" "J", Cond.methodLink RX5 192 yX5_rowsOf, Cond.instanceMethod yX5_rowsOf, Cond.selects RX5 yX5_rowsOf yX5_rowsOf, Cond.code yX5_rowsOf cX5_rowsOf 8 (some .int)]
def wsX5_sayCourt_r3 : List Cond := [Cond.fieldLink RX5 31 "HeardSecondModel" "ways" "[I", Cond.methodLink RX5 189 yX5_layWays, Cond.instanceMethod yX5_layWays, Cond.selects RX5 yX5_layWays yX5_layWays, Cond.code yX5_layWays cX5_layWays 5 none, Cond.fieldLink RX5 34 "HeardSecondModel" "onward" "[I", Cond.methodLink RX5 186 yX5_isHeard, Cond.instanceMethod yX5_isHeard, Cond.selects RX5 yX5_isHeard yX5_isHeard, Cond.code yX5_isHeard cX5_isHeard 5 (some .boolean), Cond.fieldLink RX5 118 "HeardSecondModel" "heardMany" "I", Cond.fieldLink RX5 28 "HeardSecondModel" "heards" "[I", Cond.methodLink RX5 195 yX5_whenOf, Cond.instanceMethod yX5_whenOf, Cond.selects RX5 yX5_whenOf yX5_whenOf, Cond.code yX5_whenOf cX5_whenOf 6 (some .int), Cond.fieldLink RX5 37 "HeardSecondModel" "parts" "[I"]
def wsX5_sayCourt : List Cond := .code yX5_sayCourt cX5_sayCourt 2 none :: ((wsX5_sayCourt_r1 ++ (wsX5_sayCourt_r2 ++ wsX5_sayCourt_r3)) ++ wsX50)
def wsX5_digest_r1 : List Cond := [Cond.constantLong RX5 238 (907), Cond.fieldLink RX5 230 "HeardSecondModel" "hash" "J", Cond.fieldLink RX5 94 "HeardSecondModel" "seats" "I", Cond.fieldLink RX5 68 "HeardSecondModel" "pageMany" "I", Cond.fieldLink RX5 7 "HeardSecondModel" "page" "[I", Cond.methodLink RX5 158 yX5_tell, Cond.instanceMethod yX5_tell, Cond.selects RX5 yX5_tell yX5_tell, Cond.initialized RX5, Cond.code yX5_tell cX5_tell 3 (some .int), Cond.fieldLink RX5 16 "HeardSecondModel" "rows" "[I", Cond.fieldLink RX5 100 "HeardSecondModel" "out" "I", Cond.fieldLink RX5 59 "HeardSecondModel" "now" "I", Cond.methodLink RX5 124 yX5_counts, Cond.instanceMethod yX5_counts, Cond.selects RX5 yX5_counts yX5_counts, Cond.code yX5_counts cX5_counts 6 (some .boolean), Cond.methodLink RX5 152 yX5_fewFrom, Cond.instanceMethod yX5_fewFrom, Cond.selects RX5 yX5_fewFrom yX5_fewFrom, Cond.code yX5_fewFrom cX5_fewFrom 5 (some .int), Cond.fieldLink RX5 19 "HeardSecondModel" "far" "[I", Cond.methodLink RX5 148 yX5_layFar, Cond.instanceMethod yX5_layFar]
def wsX5_digest_r2 : List Cond := [Cond.selects RX5 yX5_layFar yX5_layFar, Cond.code yX5_layFar cX5_layFar 6 none, Cond.methodLink RX5 134 yX5_behind, Cond.instanceMethod yX5_behind, Cond.selects RX5 yX5_behind yX5_behind, Cond.code yX5_behind cX5_behind 7 (some .int), Cond.methodLink RX5 234 yX5_say, Cond.instanceMethod yX5_say, Cond.selects RX5 yX5_say yX5_say, Cond.code yX5_say cX5_say 3 none, Cond.constantLong RX5 228 (31), Cond.methodLink RX5 163 yX5_firstOf, Cond.instanceMethod yX5_firstOf, Cond.selects RX5 yX5_firstOf yX5_firstOf, Cond.code yX5_firstOf cX5_firstOf 4 (some .int), Cond.methodLink RX5 141 yX5_lacks, Cond.instanceMethod yX5_lacks, Cond.selects RX5 yX5_lacks yX5_lacks, Cond.code yX5_lacks cX5_lacks 1 (some .boolean), Cond.methodLink RX5 240 yX5_sayCourt, Cond.instanceMethod yX5_sayCourt, Cond.selects RX5 yX5_sayCourt yX5_sayCourt, Cond.code yX5_sayCourt cX5_sayCourt 2 none, Cond.methodLink RX5 181 yX5_playOf]
def wsX5_digest_r3 : List Cond := [Cond.instanceMethod yX5_playOf, Cond.selects RX5 yX5_playOf yX5_playOf, Cond.code yX5_playOf cX5_playOf 4 (some .int), Cond.fieldLink RX5 169 "HeardSecondModel" "playFirst" "I", Cond.methodLink RX5 176 yX5_layPlay, Cond.instanceMethod yX5_layPlay, Cond.selects RX5 yX5_layPlay yX5_layPlay, Cond.code yX5_layPlay cX5_layPlay 10 (some .int), Cond.fieldLink RX5 22 "HeardSecondModel" "worth" "[I", Cond.fieldLink RX5 25 "HeardSecondModel" "ahead" "[I", Cond.methodLink RX5 166 yX5_worthAtEnd, Cond.instanceMethod yX5_worthAtEnd, Cond.selects RX5 yX5_worthAtEnd yX5_worthAtEnd, Cond.code yX5_worthAtEnd cX5_worthAtEnd 3 (some .int), Cond.methodLink RX5 155 yX5_isSeat, Cond.instanceMethod yX5_isSeat, Cond.selects RX5 yX5_isSeat yX5_isSeat, Cond.code yX5_isSeat cX5_isSeat 2 (some .boolean), Cond.methodLink RX5 64 yX5_in, Cond.static yX5_in, Cond.code yX5_in cX5_in 6 (some .boolean), Cond.methodLink RX5 172 yX5_copy, Cond.static yX5_copy, Cond.code yX5_copy cX5_copy 3 none]
def wsX5_digest_r4 : List Cond := [Cond.methodLink RX5 192 yX5_rowsOf, Cond.instanceMethod yX5_rowsOf, Cond.selects RX5 yX5_rowsOf yX5_rowsOf, Cond.code yX5_rowsOf cX5_rowsOf 8 (some .int), Cond.fieldLink RX5 31 "HeardSecondModel" "ways" "[I", Cond.methodLink RX5 189 yX5_layWays, Cond.instanceMethod yX5_layWays, Cond.selects RX5 yX5_layWays yX5_layWays, Cond.code yX5_layWays cX5_layWays 5 none, Cond.fieldLink RX5 34 "HeardSecondModel" "onward" "[I", Cond.methodLink RX5 186 yX5_isHeard, Cond.instanceMethod yX5_isHeard, Cond.selects RX5 yX5_isHeard yX5_isHeard, Cond.code yX5_isHeard cX5_isHeard 5 (some .boolean), Cond.fieldLink RX5 118 "HeardSecondModel" "heardMany" "I", Cond.fieldLink RX5 28 "HeardSecondModel" "heards" "[I", Cond.methodLink RX5 195 yX5_whenOf, Cond.instanceMethod yX5_whenOf, Cond.selects RX5 yX5_whenOf yX5_whenOf, Cond.code yX5_whenOf cX5_whenOf 6 (some .int), Cond.fieldLink RX5 37 "HeardSecondModel" "parts" "[I", Cond.methodLink RX5 225 yX5_countOf, Cond.instanceMethod yX5_countOf, Cond.selects RX5 yX5_countOf yX5_countOf]
def wsX5_digest_r5 : List Cond := [Cond.code yX5_countOf cX5_countOf 4 (some .int), Cond.fieldLink RX5 97 "HeardSecondModel" "patience" "I", Cond.fieldLink RX5 103 "HeardSecondModel" "silence" "I", Cond.fieldLink RX5 106 "HeardSecondModel" "cases" "I", Cond.fieldLink RX5 109 "HeardSecondModel" "wonBy0" "I", Cond.fieldLink RX5 112 "HeardSecondModel" "wonBy1" "I", Cond.fieldLink RX5 115 "HeardSecondModel" "breaths" "I", Cond.fieldLink RX5 121 "HeardSecondModel" "courtsRead" "I"]
def wsX5_digest : List Cond := .code yX5_digest cX5_digest 3 (some .long) :: ((wsX5_digest_r1 ++ (wsX5_digest_r2 ++ (wsX5_digest_r3 ++ (wsX5_digest_r4 ++ wsX5_digest_r5)))) ++ wsX50)
def wsJ9_max_7cf53 : List Cond := .code yJ9_max_7cf53 cJ9_max_7cf53 2 (some .int) :: ([])
def wsJ9_min_7cf53 : List Cond := .code yJ9_min_7cf53 cJ9_min_7cf53 2 (some .int) :: ([])
def wsL_law_r1 : List Cond := [Cond.classLink RL 7 RX4, Cond.instantiable RX4 8, Cond.initialized RX4, Cond.classLink RL 10 RX5, Cond.instantiable RX5 35, Cond.initialized RX5, Cond.methodLink RL 9 yX4_init, Cond.instanceMethod yX4_init, Cond.code yX4_init cX4_init 1 none, Cond.methodLink RX4 1 objectInit, Cond.instanceMethod objectInit, Cond.code objectInit ⟨#[0xb1]⟩ 1 none, Cond.classLink RX4 7 RX2, Cond.instantiable RX2 2, Cond.initialized RX2, Cond.fieldLink RX4 10 "HeardSecond" "page" "LHeardSecond$Page;", Cond.classLink RX4 16 RX0, Cond.instantiable RX0 4, Cond.initialized RX0, Cond.fieldLink RX4 19 "HeardSecond" "bench" "LHeardSecond$Bench;", Cond.classLink RX4 23 RX3, Cond.instantiable RX3 12, Cond.initialized RX3, Cond.fieldLink RX4 26 "HeardSecond" "now" "LHeardSecond$Trial;"]
def wsL_law_r2 : List Cond := [Cond.fieldLink RX4 30 "HeardSecond" "kept" "LHeardSecond$Trial;", Cond.fieldLink RX4 33 "HeardSecond" "trying" "LHeardSecond$Trial;", Cond.classLink RX4 36 RX1, Cond.instantiable RX1 10, Cond.initialized RX1, Cond.fieldLink RX4 41 "HeardSecond" "outlook" "LHeardSecond$Outlook;", Cond.fieldLink RX4 45 "HeardSecond" "imageKept" "Z", Cond.fieldLink RX4 49 "HeardSecond" "courtsRead" "I", Cond.instanceMethod yX2_init, Cond.code yX2_init cX2_init 1 none, Cond.methodLink RX2 3 objectInit, Cond.arrayClass .int, Cond.fieldLink RX2 9 "HeardSecond$Page" "codes" "[I", Cond.instanceMethod yX0_init, Cond.code yX0_init cX0_init 1 none, Cond.methodLink RX0 3 objectInit, Cond.fieldLink RX0 9 "HeardSecond$Bench" "kinds" "[I", Cond.fieldLink RX0 15 "HeardSecond$Bench" "sides" "[I", Cond.instanceMethod yX3_init, Cond.code yX3_init cX3_init 1 none, Cond.methodLink RX3 3 objectInit, Cond.fieldLink RX3 9 "HeardSecond$Trial" "last" "I", Cond.fieldLink RX3 15 "HeardSecond$Trial" "believed" "I", Cond.fieldLink RX3 18 "HeardSecond$Trial" "words" "[I"]
def wsL_law_r3 : List Cond := [Cond.fieldLink RX3 22 "HeardSecond$Trial" "toldWords" "[I", Cond.fieldLink RX3 25 "HeardSecond$Trial" "toldSeats" "[I", Cond.methodLink RX4 38 yX1_init, Cond.instanceMethod yX1_init, Cond.code yX1_init cX1_init 3 none, Cond.methodLink RX1 3 objectInit, Cond.fieldLink RX1 9 "HeardSecond$Outlook" "lastThen" "[I", Cond.fieldLink RX1 15 "HeardSecond$Outlook" "believedThen" "[I", Cond.fieldLink RX1 18 "HeardSecond$Outlook" "steps" "[I", Cond.fieldLink RX1 21 "HeardSecond$Outlook" "worths" "[I", Cond.fieldLink RX1 24 "HeardSecond$Outlook" "earlierWorths" "[I", Cond.fieldLink RX1 27 "HeardSecond$Outlook" "ways" "[I", Cond.fieldLink RX1 30 "HeardSecond$Outlook" "endings" "[I", Cond.fieldLink RX1 33 "HeardSecond$Outlook" "left" "[I", Cond.fieldLink RX1 36 "HeardSecond$Outlook" "bench" "LHeardSecond$Bench;", Cond.fieldLink RX1 40 "HeardSecond$Outlook" "now" "LHeardSecond$Trial;", Cond.methodLink RL 12 yX5_init, Cond.instanceMethod yX5_init, Cond.code yX5_init cX5_init 1 none, Cond.methodLink RX5 1 objectInit, Cond.fieldLink RX5 7 "HeardSecondModel" "page" "[I", Cond.fieldLink RX5 13 "HeardSecondModel" "read" "[I", Cond.fieldLink RX5 16 "HeardSecondModel" "rows" "[I", Cond.fieldLink RX5 19 "HeardSecondModel" "far" "[I"]
def wsL_law_r4 : List Cond := [Cond.fieldLink RX5 22 "HeardSecondModel" "worth" "[I", Cond.fieldLink RX5 25 "HeardSecondModel" "ahead" "[I", Cond.fieldLink RX5 28 "HeardSecondModel" "heards" "[I", Cond.fieldLink RX5 31 "HeardSecondModel" "ways" "[I", Cond.fieldLink RX5 34 "HeardSecondModel" "onward" "[I", Cond.fieldLink RX5 37 "HeardSecondModel" "parts" "[I", Cond.fieldLink RX5 40 "HeardSecondModel" "keptRows" "[I", Cond.fieldLink RX5 43 "HeardSecondModel" "keptNumbers" "[I", Cond.fieldLink RX5 46 "HeardSecondModel" "keptHeards" "[I", Cond.fieldLink RX5 49 "HeardSecondModel" "savedRows" "[I", Cond.fieldLink RX5 52 "HeardSecondModel" "savedNumbers" "[I", Cond.fieldLink RX5 55 "HeardSecondModel" "keptCourt" "I", Cond.fieldLink RX5 59 "HeardSecondModel" "now" "I", Cond.methodLink RL 13 yX4_letter, Cond.instanceMethod yX4_letter, Cond.selects RX4 yX4_letter yX4_letter, Cond.code yX4_letter cX4_letter 2 (some .int), Cond.methodLink RX4 56 yX2_append, Cond.instanceMethod yX2_append, Cond.selects RX2 yX2_append yX2_append, Cond.code yX2_append cX2_append 2 none, Cond.fieldLink RX2 15 "HeardSecond$Page" "length" "I", Cond.static yX4_put, Cond.code yX4_put cX4_put 3 none]
def wsL_law_r5 : List Cond := [Cond.methodLink RL 17 yX5_letter, Cond.instanceMethod yX5_letter, Cond.selects RX5 yX5_letter yX5_letter, Cond.code yX5_letter cX5_letter 2 (some .int), Cond.constantLong RX5 62 (126), Cond.fieldLink RX5 68 "HeardSecondModel" "pageMany" "I", Cond.methodLink RX5 64 yX5_in, Cond.static yX5_in, Cond.code yX5_in cX5_in 6 (some .boolean), Cond.methodLink RL 18 yX4_blank, Cond.instanceMethod yX4_blank, Cond.selects RX4 yX4_blank yX4_blank, Cond.code yX4_blank cX4_blank 2 (some .int), Cond.methodLink RX4 60 yX2_wipe, Cond.instanceMethod yX2_wipe, Cond.selects RX2 yX2_wipe yX2_wipe, Cond.code yX2_wipe cX2_wipe 1 none, Cond.methodLink RL 22 yX5_blank, Cond.instanceMethod yX5_blank, Cond.selects RX5 yX5_blank yX5_blank, Cond.code yX5_blank cX5_blank 2 (some .int), Cond.methodLink RL 23 yX4_fault, Cond.instanceMethod yX4_fault, Cond.selects RX4 yX4_fault yX4_fault]
def wsL_law_r6 : List Cond := [Cond.code yX4_fault cX4_fault 1 (some .int), Cond.methodLink RX4 63 yX2_firstFault, Cond.instanceMethod yX2_firstFault, Cond.selects RX2 yX2_firstFault yX2_firstFault, Cond.code yX2_firstFault cX2_firstFault 5 (some .int), Cond.methodLink RX2 27 yX2_codeAt, Cond.instanceMethod yX2_codeAt, Cond.selects RX2 yX2_codeAt yX2_codeAt, Cond.code yX2_codeAt cX2_codeAt 2 (some .int), Cond.static yX4_at, Cond.code yX4_at cX4_at 2 (some .int), Cond.methodLink RX2 31 yX2_dueBehind, Cond.static yX2_dueBehind, Cond.code yX2_dueBehind cX2_dueBehind 3 (some .int), Cond.methodLink RX2 39 yX2_kindOf, Cond.static yX2_kindOf, Cond.code yX2_kindOf cX2_kindOf 1 (some .int), Cond.methodLink RX2 42 yX2_dueBehindMark, Cond.static yX2_dueBehindMark, Cond.code yX2_dueBehindMark cX2_dueBehindMark 2 (some .int), Cond.methodLink RL 26 yX5_fault, Cond.instanceMethod yX5_fault, Cond.selects RX5 yX5_fault yX5_fault, Cond.code yX5_fault cX5_fault 1 (some .int)]
def wsL_law_r7 : List Cond := [Cond.methodLink RX5 90 yX5_faultOf, Cond.instanceMethod yX5_faultOf, Cond.selects RX5 yX5_faultOf yX5_faultOf, Cond.code yX5_faultOf cX5_faultOf 2 (some .int), Cond.fieldLink RX5 74 "HeardSecondModel" "readMany" "I", Cond.fieldLink RX5 71 "HeardSecondModel" "state" "I", Cond.methodLink RX5 86 yX5_go, Cond.instanceMethod yX5_go, Cond.selects RX5 yX5_go yX5_go, Cond.code yX5_go cX5_go 4 (some .boolean), Cond.fieldLink RX5 81 "HeardSecondModel" "readPatience" "I", Cond.constantLong RX5 84 (9), Cond.methodLink RX5 77 yX5_kindBy, Cond.static yX5_kindBy, Cond.code yX5_kindBy cX5_kindBy 1 (some .int), Cond.methodLink RL 27 yX4_court, Cond.instanceMethod yX4_court, Cond.selects RX4 yX4_court yX4_court, Cond.code yX4_court cX4_court 1 (some .int), Cond.methodLink RX4 67 yX2_isWhole, Cond.instanceMethod yX2_isWhole, Cond.selects RX2 yX2_isWhole yX2_isWhole, Cond.code yX2_isWhole cX2_isWhole 1 (some .boolean), Cond.methodLink RX2 35 yX2_firstFault]
def wsL_law_r8 : List Cond := [Cond.methodLink RX4 71 yX0_sitDown, Cond.instanceMethod yX0_sitDown, Cond.selects RX0 yX0_sitDown yX0_sitDown, Cond.code yX0_sitDown cX0_sitDown 3 none, Cond.methodLink RX0 24 Lib.Math.min.name, Cond.static Lib.Math.min.name, Cond.initialized "java/lang/Math", Cond.code Lib.Math.min.name Lib.Math.min.code 2 (some .int), Cond.fieldLink RX0 30 "HeardSecond$Bench" "seats" "I", Cond.fieldLink RX0 44 "HeardSecond$Bench" "patience" "I", Cond.methodLink RX0 33 yX2_codeAt, Cond.methodLink RX0 37 yX2_kindOf, Cond.methodLink RX4 75 yX3_beginAll, Cond.instanceMethod yX3_beginAll, Cond.selects RX3 yX3_beginAll yX3_beginAll, Cond.code yX3_beginAll cX3_beginAll 1 none, Cond.fieldLink RX3 31 "HeardSecond$Trial" "ended" "I", Cond.fieldLink RX3 34 "HeardSecond$Trial" "wonBy0" "I", Cond.fieldLink RX3 37 "HeardSecond$Trial" "wonBy1" "I", Cond.fieldLink RX3 40 "HeardSecond$Trial" "breaths" "I", Cond.fieldLink RX3 43 "HeardSecond$Trial" "told" "I", Cond.methodLink RX3 28 yX3_beginCase, Cond.instanceMethod yX3_beginCase, Cond.selects RX3 yX3_beginCase yX3_beginCase]
def wsL_law_r9 : List Cond := [Cond.code yX3_beginCase cX3_beginCase 1 none, Cond.fieldLink RX3 50 "HeardSecond$Trial" "out" "I", Cond.fieldLink RX3 53 "HeardSecond$Trial" "silence" "I", Cond.static yX4_fill, Cond.code yX4_fill cX4_fill 3 none, Cond.methodLink RL 30 yX5_court, Cond.instanceMethod yX5_court, Cond.selects RX5 yX5_court yX5_court, Cond.code yX5_court cX5_court 2 (some .int), Cond.fieldLink RX5 94 "HeardSecondModel" "seats" "I", Cond.fieldLink RX5 97 "HeardSecondModel" "patience" "I", Cond.fieldLink RX5 100 "HeardSecondModel" "out" "I", Cond.fieldLink RX5 103 "HeardSecondModel" "silence" "I", Cond.fieldLink RX5 106 "HeardSecondModel" "cases" "I", Cond.fieldLink RX5 109 "HeardSecondModel" "wonBy0" "I", Cond.fieldLink RX5 112 "HeardSecondModel" "wonBy1" "I", Cond.fieldLink RX5 115 "HeardSecondModel" "breaths" "I", Cond.fieldLink RX5 118 "HeardSecondModel" "heardMany" "I", Cond.fieldLink RX5 121 "HeardSecondModel" "courtsRead" "I", Cond.methodLink RL 31 yX4_seat, Cond.instanceMethod yX4_seat, Cond.selects RX4 yX4_seat yX4_seat, Cond.code yX4_seat cX4_seat 3 (some .int), Cond.methodLink RX4 81 yX0_has]
def wsL_law_r10 : List Cond := [Cond.instanceMethod yX0_has, Cond.selects RX0 yX0_has yX0_has, Cond.code yX0_has cX0_has 2 (some .boolean), Cond.methodLink RX4 85 yX0_kindAt, Cond.instanceMethod yX0_kindAt, Cond.selects RX0 yX0_kindAt yX0_kindAt, Cond.code yX0_kindAt cX0_kindAt 2 (some .int), Cond.methodLink RX4 89 yX0_sideAt, Cond.instanceMethod yX0_sideAt, Cond.selects RX0 yX0_sideAt yX0_sideAt, Cond.code yX0_sideAt cX0_sideAt 2 (some .int), Cond.methodLink RX4 95 yX4_isIn, Cond.static yX4_isIn, Cond.code yX4_isIn cX4_isIn 2 (some .boolean), Cond.methodLink RX4 102 yX0_counts, Cond.instanceMethod yX0_counts, Cond.selects RX0 yX0_counts yX0_counts, Cond.code yX0_counts cX0_counts 5 (some .boolean), Cond.methodLink RX0 47 yX0_kindAt, Cond.methodLink RX0 58 yX0_sitsBeside, Cond.instanceMethod yX0_sitsBeside, Cond.selects RX0 yX0_sitsBeside yX0_sitsBeside, Cond.code yX0_sitsBeside cX0_sitsBeside 3 (some .boolean), Cond.methodLink RX4 110 yX4_at]
def wsL_law_r11 : List Cond := [Cond.methodLink RX4 114 yX1_aimAt, Cond.instanceMethod yX1_aimAt, Cond.selects RX1 yX1_aimAt yX1_aimAt, Cond.code yX1_aimAt cX1_aimAt 6 none, Cond.methodLink RX1 82 Lib.Math.min.name, Cond.methodLink RX1 71 yX1_tableWords, Cond.instanceMethod yX1_tableWords, Cond.selects RX1 yX1_tableWords yX1_tableWords, Cond.code yX1_tableWords cX1_tableWords 4 none, Cond.methodLink RX1 50 yX0_counts, Cond.methodLink RX1 56 yX1_wordPlace, Cond.static yX1_wordPlace, Cond.code yX1_wordPlace cX1_wordPlace 2 (some .int), Cond.methodLink RX1 60 yX0_lastBehind, Cond.instanceMethod yX0_lastBehind, Cond.selects RX0 yX0_lastBehind yX0_lastBehind, Cond.code yX0_lastBehind cX0_lastBehind 2 (some .int), Cond.methodLink RX1 68 yX0_believedBehind, Cond.instanceMethod yX0_believedBehind, Cond.selects RX0 yX0_believedBehind yX0_believedBehind, Cond.code yX0_believedBehind cX0_believedBehind 4 (some .int), Cond.methodLink RX1 78 yX1_stepsBy, Cond.instanceMethod yX1_stepsBy, Cond.selects RX1 yX1_stepsBy yX1_stepsBy]
def wsL_law_r12 : List Cond := [Cond.code yX1_stepsBy cX1_stepsBy 5 (some .int), Cond.methodLink RX4 117 yX1_fewestWords, Cond.instanceMethod yX1_fewestWords, Cond.selects RX1 yX1_fewestWords yX1_fewestWords, Cond.code yX1_fewestWords cX1_fewestWords 3 (some .int), Cond.methodLink RL 35 yX5_seat, Cond.instanceMethod yX5_seat, Cond.selects RX5 yX5_seat yX5_seat, Cond.code yX5_seat cX5_seat 3 (some .int), Cond.methodLink RX5 155 yX5_isSeat, Cond.instanceMethod yX5_isSeat, Cond.selects RX5 yX5_isSeat yX5_isSeat, Cond.code yX5_isSeat cX5_isSeat 2 (some .boolean), Cond.methodLink RX5 158 yX5_tell, Cond.instanceMethod yX5_tell, Cond.selects RX5 yX5_tell yX5_tell, Cond.code yX5_tell cX5_tell 3 (some .int), Cond.methodLink RX5 124 yX5_counts, Cond.instanceMethod yX5_counts, Cond.selects RX5 yX5_counts yX5_counts, Cond.code yX5_counts cX5_counts 6 (some .boolean), Cond.methodLink RX5 152 yX5_fewFrom, Cond.instanceMethod yX5_fewFrom, Cond.selects RX5 yX5_fewFrom yX5_fewFrom]
def wsL_law_r13 : List Cond := [Cond.code yX5_fewFrom cX5_fewFrom 5 (some .int), Cond.methodLink RX5 148 yX5_layFar, Cond.instanceMethod yX5_layFar, Cond.selects RX5 yX5_layFar yX5_layFar, Cond.code yX5_layFar cX5_layFar 6 none, Cond.methodLink RX5 134 yX5_behind, Cond.instanceMethod yX5_behind, Cond.selects RX5 yX5_behind yX5_behind, Cond.code yX5_behind cX5_behind 7 (some .int), Cond.methodLink RL 36 yX4_as, Cond.instanceMethod yX4_as, Cond.selects RX4 yX4_as yX4_as, Cond.code yX4_as cX4_as 3 (some .int), Cond.methodLink RX4 120 yX0_isOf, Cond.instanceMethod yX0_isOf, Cond.selects RX0 yX0_isOf yX0_isOf, Cond.code yX0_isOf cX0_isOf 4 (some .boolean), Cond.methodLink RX0 50 yX0_has, Cond.methodLink RL 39 yX5_as, Cond.instanceMethod yX5_as, Cond.selects RX5 yX5_as yX5_as, Cond.code yX5_as cX5_as 5 (some .int), Cond.constantLong RX5 161 (4), Cond.methodLink RL 40 yX4_breath]
def wsL_law_r14 : List Cond := [Cond.instanceMethod yX4_breath, Cond.selects RX4 yX4_breath yX4_breath, Cond.code yX4_breath cX4_breath 2 (some .int), Cond.methodLink RX4 123 yX0_namesOnlySeats, Cond.instanceMethod yX0_namesOnlySeats, Cond.selects RX0 yX0_namesOnlySeats yX0_namesOnlySeats, Cond.code yX0_namesOnlySeats cX0_namesOnlySeats 2 (some .boolean), Cond.methodLink RX4 126 yX0_isSet, Cond.instanceMethod yX0_isSet, Cond.selects RX0 yX0_isSet yX0_isSet, Cond.code yX0_isSet cX0_isSet 1 (some .boolean), Cond.methodLink RX4 129 yX3_breathe, Cond.instanceMethod yX3_breathe, Cond.selects RX3 yX3_breathe yX3_breathe, Cond.code yX3_breathe cX3_breathe 7 (some .int), Cond.methodLink RX3 64 yX0_counts, Cond.methodLink RX3 70 yX3_keepSilence, Cond.instanceMethod yX3_keepSilence, Cond.selects RX3 yX3_keepSilence yX3_keepSilence, Cond.code yX3_keepSilence cX3_keepSilence 2 none, Cond.methodLink RX3 97 yX0_sideAt, Cond.methodLink RX3 100 yX3_endCase, Cond.instanceMethod yX3_endCase, Cond.selects RX3 yX3_endCase yX3_endCase]
def wsL_law_r15 : List Cond := [Cond.code yX3_endCase cX3_endCase 2 none, Cond.methodLink RX3 74 yX3_speak, Cond.instanceMethod yX3_speak, Cond.selects RX3 yX3_speak yX3_speak, Cond.code yX3_speak cX3_speak 3 none, Cond.methodLink RX3 86 yX0_believedBehind, Cond.methodLink RX3 90 yX0_lastBehind, Cond.methodLink RL 43 yX5_breath, Cond.instanceMethod yX5_breath, Cond.selects RX5 yX5_breath yX5_breath, Cond.code yX5_breath cX5_breath 2 (some .int), Cond.methodLink RX5 141 yX5_lacks, Cond.instanceMethod yX5_lacks, Cond.selects RX5 yX5_lacks yX5_lacks, Cond.code yX5_lacks cX5_lacks 1 (some .boolean), Cond.methodLink RX5 145 yX5_goesBy, Cond.instanceMethod yX5_goesBy, Cond.selects RX5 yX5_goesBy yX5_goesBy, Cond.code yX5_goesBy cX5_goesBy 5 (some .int), Cond.methodLink RX5 128 yX5_counting, Cond.instanceMethod yX5_counting, Cond.selects RX5 yX5_counting yX5_counting, Cond.code yX5_counting cX5_counting 4 (some .int), Cond.methodLink RX5 131 yX5_ones]
def wsL_law_r16 : List Cond := [Cond.static yX5_ones, Cond.code yX5_ones cX5_ones 3 (some .int), Cond.methodLink RX5 138 yX5_ends, Cond.instanceMethod yX5_ends, Cond.selects RX5 yX5_ends yX5_ends, Cond.code yX5_ends cX5_ends 2 none, Cond.methodLink RL 44 yX4_get, Cond.instanceMethod yX4_get, Cond.selects RX4 yX4_get yX4_get, Cond.code yX4_get cX4_get 3 (some .int), Cond.methodLink RX4 133 yX1_firstSpeaker, Cond.instanceMethod yX1_firstSpeaker, Cond.selects RX1 yX1_firstSpeaker yX1_firstSpeaker, Cond.code yX1_firstSpeaker cX1_firstSpeaker 4 (some .int), Cond.methodLink RX1 97 yX1_fewestWords, Cond.methodLink RL 47 yX5_get, Cond.instanceMethod yX5_get, Cond.selects RX5 yX5_get yX5_get, Cond.code yX5_get cX5_get 3 (some .int), Cond.methodLink RX5 163 yX5_firstOf, Cond.instanceMethod yX5_firstOf, Cond.selects RX5 yX5_firstOf yX5_firstOf, Cond.code yX5_firstOf cX5_firstOf 4 (some .int), Cond.methodLink RL 48 yX4_play]
def wsL_law_r17 : List Cond := [Cond.instanceMethod yX4_play, Cond.selects RX4 yX4_play yX4_play, Cond.code yX4_play cX4_play 3 (some .int), Cond.methodLink RX4 136 yX1_weighReplies, Cond.instanceMethod yX1_weighReplies, Cond.selects RX1 yX1_weighReplies yX1_weighReplies, Cond.code yX1_weighReplies cX1_weighReplies 4 none, Cond.methodLink RX1 100 yX1_worthPlace, Cond.static yX1_worthPlace, Cond.code yX1_worthPlace cX1_worthPlace 2 (some .int), Cond.methodLink RX1 103 yX1_worthOfEnd, Cond.instanceMethod yX1_worthOfEnd, Cond.selects RX1 yX1_worthOfEnd yX1_worthOfEnd, Cond.code yX1_worthOfEnd cX1_worthOfEnd 2 (some .int), Cond.methodLink RX1 133 yX0_sideAt, Cond.methodLink RX1 106 yX1_weighBreath, Cond.instanceMethod yX1_weighBreath, Cond.selects RX1 yX1_weighBreath yX1_weighBreath, Cond.code yX1_weighBreath cX1_weighBreath 6 none, Cond.methodLink RX1 110 yX1_bestByWord, Cond.instanceMethod yX1_bestByWord, Cond.selects RX1 yX1_bestByWord yX1_bestByWord, Cond.code yX1_bestByWord cX1_bestByWord 5 (some .int), Cond.methodLink RX1 120 yX1_isTurnOf]
def wsL_law_r18 : List Cond := [Cond.instanceMethod yX1_isTurnOf, Cond.selects RX1 yX1_isTurnOf yX1_isTurnOf, Cond.code yX1_isTurnOf cX1_isTurnOf 4 (some .boolean), Cond.methodLink RX1 123 yX1_worthBehind, Cond.instanceMethod yX1_worthBehind, Cond.selects RX1 yX1_worthBehind yX1_worthBehind, Cond.code yX1_worthBehind cX1_worthBehind 4 (some .int), Cond.methodLink RX1 113 yX1_better, Cond.static yX1_better, Cond.code yX1_better cX1_better 3 (some .int), Cond.methodLink RX1 130 Lib.Math.max.name, Cond.static Lib.Math.max.name, Cond.code Lib.Math.max.name Lib.Math.max.code 2 (some .int), Cond.static yX4_copy, Cond.code yX4_copy cX4_copy 3 none, Cond.methodLink RX4 139 yX1_bestWorth, Cond.instanceMethod yX1_bestWorth, Cond.selects RX1 yX1_bestWorth yX1_bestWorth, Cond.code yX1_bestWorth cX1_bestWorth 1 (some .int), Cond.methodLink RX4 142 yX1_bestOpening, Cond.instanceMethod yX1_bestOpening, Cond.selects RX1 yX1_bestOpening yX1_bestOpening, Cond.code yX1_bestOpening cX1_bestOpening 3 (some .int), Cond.methodLink RX1 116 yX1_bestWorth]
def wsL_law_r19 : List Cond := [Cond.methodLink RL 51 yX5_play, Cond.instanceMethod yX5_play, Cond.selects RX5 yX5_play yX5_play, Cond.code yX5_play cX5_play 3 (some .int), Cond.constantLong RX5 179 (6), Cond.methodLink RX5 181 yX5_playOf, Cond.instanceMethod yX5_playOf, Cond.selects RX5 yX5_playOf yX5_playOf, Cond.code yX5_playOf cX5_playOf 4 (some .int), Cond.fieldLink RX5 169 "HeardSecondModel" "playFirst" "I", Cond.methodLink RX5 176 yX5_layPlay, Cond.instanceMethod yX5_layPlay, Cond.selects RX5 yX5_layPlay yX5_layPlay, Cond.code yX5_layPlay cX5_layPlay 10 (some .int), Cond.methodLink RX5 166 yX5_worthAtEnd, Cond.instanceMethod yX5_worthAtEnd, Cond.selects RX5 yX5_worthAtEnd yX5_worthAtEnd, Cond.code yX5_worthAtEnd cX5_worthAtEnd 3 (some .int), Cond.methodLink RX5 172 yX5_copy, Cond.static yX5_copy, Cond.code yX5_copy cX5_copy 3 none, Cond.methodLink RL 52 yX4_hear, Cond.instanceMethod yX4_hear, Cond.selects RX4 yX4_hear yX4_hear]
def wsL_law_r20 : List Cond := [Cond.code yX4_hear cX4_hear 3 (some .int), Cond.methodLink RX4 148 yX3_tell, Cond.instanceMethod yX3_tell, Cond.selects RX3 yX3_tell yX3_tell, Cond.code yX3_tell cX3_tell 3 none, Cond.methodLink RL 55 yX5_hear, Cond.instanceMethod yX5_hear, Cond.selects RX5 yX5_hear yX5_hear, Cond.code yX5_hear cX5_hear 3 (some .int), Cond.constantLong RX5 184 (8), Cond.methodLink RL 56 yX4_forget, Cond.instanceMethod yX4_forget, Cond.selects RX4 yX4_forget yX4_forget, Cond.code yX4_forget cX4_forget 2 (some .int), Cond.methodLink RL 59 yX5_forget, Cond.instanceMethod yX5_forget, Cond.selects RX5 yX5_forget yX5_forget, Cond.code yX5_forget cX5_forget 2 (some .int), Cond.methodLink RL 60 yX4_rows, Cond.instanceMethod yX4_rows, Cond.selects RX4 yX4_rows yX4_rows, Cond.code yX4_rows cX4_rows 3 (some .int), Cond.methodLink RX4 152 yX1_fillWays, Cond.instanceMethod yX1_fillWays]
def wsL_law_r21 : List Cond := [Cond.selects RX1 yX1_fillWays yX1_fillWays, Cond.code yX1_fillWays cX1_fillWays 6 none, Cond.methodLink RX1 136 yX1_rowPlace, Cond.static yX1_rowPlace, Cond.code yX1_rowPlace cX1_rowPlace 2 (some .int), Cond.methodLink RX1 139 yX3_allows, Cond.instanceMethod yX3_allows, Cond.selects RX3 yX3_allows yX3_allows, Cond.code yX3_allows cX3_allows 4 (some .boolean), Cond.methodLink RX1 143 yX1_canBeWord, Cond.instanceMethod yX1_canBeWord, Cond.selects RX1 yX1_canBeWord yX1_canBeWord, Cond.code yX1_canBeWord cX1_canBeWord 5 (some .boolean), Cond.methodLink RX4 155 yX1_waysOf, Cond.instanceMethod yX1_waysOf, Cond.selects RX1 yX1_waysOf yX1_waysOf, Cond.code yX1_waysOf cX1_waysOf 4 (some .int), Cond.methodLink RX4 158 yX1_lastsBehind, Cond.instanceMethod yX1_lastsBehind, Cond.selects RX1 yX1_lastsBehind yX1_lastsBehind, Cond.code yX1_lastsBehind cX1_lastsBehind 4 (some .int), Cond.methodLink RL 63 yX5_rows, Cond.instanceMethod yX5_rows, Cond.selects RX5 yX5_rows yX5_rows]
def wsL_law_r22 : List Cond := [Cond.code yX5_rows cX5_rows 3 (some .int), Cond.methodLink RX5 192 yX5_rowsOf, Cond.instanceMethod yX5_rowsOf, Cond.selects RX5 yX5_rowsOf yX5_rowsOf, Cond.code yX5_rowsOf cX5_rowsOf 8 (some .int), Cond.methodLink RX5 189 yX5_layWays, Cond.instanceMethod yX5_layWays, Cond.selects RX5 yX5_layWays yX5_layWays, Cond.code yX5_layWays cX5_layWays 5 none, Cond.methodLink RX5 186 yX5_isHeard, Cond.instanceMethod yX5_isHeard, Cond.selects RX5 yX5_isHeard yX5_isHeard, Cond.code yX5_isHeard cX5_isHeard 5 (some .boolean), Cond.methodLink RL 64 yX4_when, Cond.instanceMethod yX4_when, Cond.selects RX4 yX4_when yX4_when, Cond.code yX4_when cX4_when 1 (some .int), Cond.methodLink RX4 161 yX1_bestLook, Cond.instanceMethod yX1_bestLook, Cond.selects RX1 yX1_bestLook yX1_bestLook, Cond.code yX1_bestLook cX1_bestLook 5 (some .int), Cond.methodLink RX1 146 yX1_fillWays, Cond.methodLink RX1 149 yX1_waysOf, Cond.methodLink RX1 152 yX1_fillEndings]
def wsL_law_r23 : List Cond := [Cond.instanceMethod yX1_fillEndings, Cond.selects RX1 yX1_fillEndings yX1_fillEndings, Cond.code yX1_fillEndings cX1_fillEndings 5 none, Cond.methodLink RX1 155 yX1_mostLeft, Cond.instanceMethod yX1_mostLeft, Cond.selects RX1 yX1_mostLeft yX1_mostLeft, Cond.code yX1_mostLeft cX1_mostLeft 9 (some .int), Cond.methodLink RL 67 yX5_when, Cond.instanceMethod yX5_when, Cond.selects RX5 yX5_when yX5_when, Cond.code yX5_when cX5_when 1 (some .int), Cond.methodLink RX5 195 yX5_whenOf, Cond.instanceMethod yX5_whenOf, Cond.selects RX5 yX5_whenOf yX5_whenOf, Cond.code yX5_whenOf cX5_whenOf 6 (some .int), Cond.methodLink RL 68 yX4_sessions, Cond.instanceMethod yX4_sessions, Cond.selects RX4 yX4_sessions yX4_sessions, Cond.code yX4_sessions cX4_sessions 5 (some .int), Cond.methodLink RX4 164 yX3_takeFrom, Cond.instanceMethod yX3_takeFrom, Cond.selects RX3 yX3_takeFrom yX3_takeFrom, Cond.code yX3_takeFrom cX3_takeFrom 2 none, Cond.methodLink RX4 168 yX4_runSessions]
def wsL_law_r24 : List Cond := [Cond.instanceMethod yX4_runSessions, Cond.selects RX4 yX4_runSessions yX4_runSessions, Cond.code yX4_runSessions cX4_runSessions 8 (some .int), Cond.constantLong RX4 222 (65536), Cond.constantLong RX4 224 (3), Cond.methodLink RX4 218 yX4_nextSeed, Cond.static yX4_nextSeed, Cond.code yX4_nextSeed cX4_nextSeed 2 (some .long), Cond.constantLong RX4 226 (1103515245), Cond.constantLong RX4 228 (12345), Cond.constantLong RX4 230 (2147483648), Cond.methodLink RL 72 yX5_sessions, Cond.instanceMethod yX5_sessions, Cond.selects RX5 yX5_sessions yX5_sessions, Cond.code yX5_sessions cX5_sessions 7 (some .int), Cond.constantLong RX5 218 (60), Cond.constantLong RX5 220 (2), Cond.fieldLink RX5 210 "HeardSecondModel" "seedNow" "I", Cond.methodLink RX5 198 yX5_layAll, Cond.instanceMethod yX5_layAll, Cond.selects RX5 yX5_layAll yX5_layAll, Cond.code yX5_layAll cX5_layAll 2 none, Cond.methodLink RX5 222 yX5_draw, Cond.instanceMethod yX5_draw]
def wsL_law_r25 : List Cond := [Cond.selects RX5 yX5_draw yX5_draw, Cond.code yX5_draw cX5_draw 2 (some .int), Cond.constantLong RX5 208 (1103515245), Cond.constantLong RX5 213 (12345), Cond.constantLong RX5 215 (2147483647), Cond.constant RX5 217 (65536), Cond.methodLink RX5 205 yX5_layBack, Cond.instanceMethod yX5_layBack, Cond.selects RX5 yX5_layBack yX5_layBack, Cond.code yX5_layBack cX5_layBack 2 none, Cond.methodLink RL 73 yX4_image, Cond.instanceMethod yX4_image, Cond.selects RX4 yX4_image yX4_image, Cond.code yX4_image cX4_image 1 (some .int), Cond.methodLink RL 76 yX5_image, Cond.instanceMethod yX5_image, Cond.selects RX5 yX5_image yX5_image, Cond.code yX5_image cX5_image 1 (some .int), Cond.fieldLink RX5 202 "HeardSecondModel" "keptHeardMany" "I", Cond.methodLink RL 77 yX4_restore, Cond.instanceMethod yX4_restore, Cond.selects RX4 yX4_restore yX4_restore, Cond.code yX4_restore cX4_restore 1 (some .int), Cond.methodLink RL 80 yX5_restore]
def wsL_law_r26 : List Cond := [Cond.instanceMethod yX5_restore, Cond.selects RX5 yX5_restore yX5_restore, Cond.code yX5_restore cX5_restore 1 (some .int), Cond.methodLink RL 81 yX4_count, Cond.instanceMethod yX4_count, Cond.selects RX4 yX4_count yX4_count, Cond.code yX4_count cX4_count 2 (some .int), Cond.methodLink RL 84 yX5_count, Cond.instanceMethod yX5_count, Cond.selects RX5 yX5_count yX5_count, Cond.code yX5_count cX5_count 2 (some .int), Cond.methodLink RX5 225 yX5_countOf, Cond.instanceMethod yX5_countOf, Cond.selects RX5 yX5_countOf yX5_countOf, Cond.code yX5_countOf cX5_countOf 4 (some .int), Cond.methodLink RL 85 yX4_digest, Cond.instanceMethod yX4_digest, Cond.selects RX4 yX4_digest yX4_digest, Cond.code yX4_digest cX4_digest 5 (some .long), Cond.constantLong RX4 193 (907), Cond.constantLong RX4 195 (31), Cond.methodLink RX4 197 yX4_seat, Cond.methodLink RX4 200 yX4_get, Cond.methodLink RX4 203 yX4_play]
def wsL_law_r27 : List Cond := [Cond.methodLink RX4 206 yX4_rows, Cond.methodLink RX4 209 yX4_when, Cond.methodLink RX4 212 yX2_codeAt, Cond.methodLink RX4 215 yX4_count, Cond.methodLink RL 89 yX5_digest, Cond.instanceMethod yX5_digest, Cond.selects RX5 yX5_digest yX5_digest, Cond.code yX5_digest cX5_digest 3 (some .long), Cond.constantLong RX5 238 (907), Cond.fieldLink RX5 230 "HeardSecondModel" "hash" "J", Cond.methodLink RX5 234 yX5_say, Cond.instanceMethod yX5_say, Cond.selects RX5 yX5_say yX5_say, Cond.code yX5_say cX5_say 3 none, Cond.constantLong RX5 228 (31), Cond.methodLink RX5 240 yX5_sayCourt, Cond.instanceMethod yX5_sayCourt, Cond.selects RX5 yX5_sayCourt yX5_sayCourt, Cond.code yX5_sayCourt cX5_sayCourt 2 none]
def wsL_law : List Cond := (wsL_law_r1 ++ (wsL_law_r2 ++ (wsL_law_r3 ++ (wsL_law_r4 ++ (wsL_law_r5 ++ (wsL_law_r6 ++ (wsL_law_r7 ++ (wsL_law_r8 ++ (wsL_law_r9 ++ (wsL_law_r10 ++ (wsL_law_r11 ++ (wsL_law_r12 ++ (wsL_law_r13 ++ (wsL_law_r14 ++ (wsL_law_r15 ++ (wsL_law_r16 ++ (wsL_law_r17 ++ (wsL_law_r18 ++ (wsL_law_r19 ++ (wsL_law_r20 ++ (wsL_law_r21 ++ (wsL_law_r22 ++ (wsL_law_r23 ++ (wsL_law_r24 ++ (wsL_law_r25 ++ (wsL_law_r26 ++ wsL_law_r27)))))))))))))))))))))))))) ++ wsX40 ++ wsX50 ++ wsX20 ++ wsX00 ++ wsX30 ++ wsX10 ++ ([] : List Cond)
end
section
set_option maxRecDepth 20000 in
theorem wsL_in_1 : ∀ w ∈ wsL_law_r1, w ∈ lw_tbl := fun w h => (goodIn_r wsL_law_r1 [50, 51, 43, 555, 556, 48, 52, 53, 54, 55, 56, 57, 58, 59, 44, 189, 74, 75, 45, 190, 96, 97, 46, 191] (by decide +kernel) (by decide +kernel) w h).1
set_option maxRecDepth 20000 in
theorem wsL_in_2 : ∀ w ∈ wsL_law_r2, w ∈ lw_tbl := fun w h => (goodIn_r wsL_law_r2 [192, 193, 152, 153, 47, 194, 195, 196, 61, 62, 63, 73, 64, 77, 78, 79, 80, 81, 99, 100, 101, 102, 105, 121] (by decide +kernel) (by decide +kernel) w h).1
set_option maxRecDepth 20000 in
theorem wsL_in_3 : ∀ w ∈ wsL_law_r3, w ∈ lw_tbl := fun w h => (goodIn_r wsL_law_r3 [125, 126, 154, 155, 156, 157, 160, 161, 162, 163, 164, 165, 166, 167, 158, 159, 557, 558, 559, 560, 561, 563, 577, 578] (by decide +kernel) (by decide +kernel) w h).1
set_option maxRecDepth 20000 in
theorem wsL_in_4 : ∀ w ∈ wsL_law_r4, w ∈ lw_tbl := fun w h => (goodIn_r wsL_law_r4 [579, 580, 583, 584, 585, 586, 587, 588, 589, 593, 594, 591, 569, 214, 215, 216, 217, 218, 219, 220, 221, 65, 223, 224] (by decide +kernel) (by decide +kernel) w h).1
set_option maxRecDepth 20000 in
theorem wsL_in_5 : ∀ w ∈ wsL_law_r5, w ∈ lw_tbl := fun w h => (goodIn_r wsL_law_r5 [667, 668, 669, 670, 671, 562, 672, 673, 674, 225, 226, 227, 228, 229, 230, 231, 232, 675, 676, 677, 678, 233, 234, 235] (by decide +kernel) (by decide +kernel) w h).1
set_option maxRecDepth 20000 in
theorem wsL_in_6 : ∀ w ∈ wsL_law_r6, w ∈ lw_tbl := fun w h => (goodIn_r wsL_law_r6 [236, 237, 238, 239, 240, 241, 242, 243, 244, 246, 247, 248, 249, 250, 251, 252, 253, 254, 255, 256, 679, 680, 681, 682] (by decide +kernel) (by decide +kernel) w h).1
set_option maxRecDepth 20000 in
theorem wsL_in_7 : ∀ w ∈ wsL_law_r7, w ∈ lw_tbl := fun w h => (goodIn_r wsL_law_r7 [683, 685, 16, 686, 564, 566, 687, 689, 17, 690, 565, 694, 691, 692, 693, 257, 258, 259, 260, 261, 262, 263, 264, 265] (by decide +kernel) (by decide +kernel) w h).1
set_option maxRecDepth 20000 in
theorem wsL_in_8 : ∀ w ∈ wsL_law_r8, w ∈ lw_tbl := fun w h => (goodIn_r wsL_law_r8 [266, 267, 268, 269, 270, 271, 49, 272, 82, 84, 273, 274, 276, 277, 278, 279, 113, 115, 117, 119, 123, 280, 282, 0] (by decide +kernel) (by decide +kernel) w h).1
set_option maxRecDepth 20000 in
theorem wsL_in_9 : ∀ w ∈ wsL_law_r9, w ∈ lw_tbl := fun w h => (goodIn_r wsL_law_r9 [283, 109, 111, 285, 286, 695, 696, 697, 698, 567, 568, 570, 571, 572, 573, 574, 575, 582, 576, 287, 288, 289, 290, 291] (by decide +kernel) (by decide +kernel) w h).1
set_option maxRecDepth 20000 in
theorem wsL_in_10 : ∀ w ∈ wsL_law_r10, w ∈ lw_tbl := fun w h => (goodIn_r wsL_law_r10 [292, 293, 294, 295, 296, 297, 298, 299, 300, 301, 302, 303, 304, 305, 306, 307, 308, 309, 310, 312, 314, 1, 315, 316] (by decide +kernel) (by decide +kernel) w h).1
set_option maxRecDepth 20000 in
theorem wsL_in_11 : ∀ w ∈ wsL_law_r11, w ∈ lw_tbl := fun w h => (goodIn_r wsL_law_r11 [317, 318, 319, 320, 344, 321, 323, 2, 324, 325, 326, 327, 328, 329, 330, 331, 332, 334, 335, 336, 337, 339, 341, 3] (by decide +kernel) (by decide +kernel) w h).1
set_option maxRecDepth 20000 in
theorem wsL_in_12 : ∀ w ∈ wsL_law_r12, w ∈ lw_tbl := fun w h => (goodIn_r wsL_law_r12 [342, 345, 346, 347, 348, 730, 731, 732, 733, 734, 736, 24, 737, 738, 740, 25, 741, 715, 717, 21, 718, 742, 744, 26] (by decide +kernel) (by decide +kernel) w h).1
set_option maxRecDepth 20000 in
theorem wsL_in_13 : ∀ w ∈ wsL_law_r13, w ∈ lw_tbl := fun w h => (goodIn_r wsL_law_r13 [745, 746, 748, 27, 749, 722, 724, 22, 725, 349, 350, 351, 352, 353, 354, 355, 356, 357, 750, 751, 752, 753, 754, 358] (by decide +kernel) (by decide +kernel) w h).1
set_option maxRecDepth 20000 in
theorem wsL_in_14 : ∀ w ∈ wsL_law_r14, w ∈ lw_tbl := fun w h => (goodIn_r wsL_law_r14 [359, 360, 361, 362, 363, 364, 365, 366, 367, 368, 369, 370, 371, 372, 373, 375, 376, 378, 4, 379, 380, 381, 383, 5] (by decide +kernel) (by decide +kernel) w h).1
set_option maxRecDepth 20000 in
theorem wsL_in_15 : ∀ w ∈ wsL_law_r15, w ∈ lw_tbl := fun w h => (goodIn_r wsL_law_r15 [384, 385, 387, 6, 388, 391, 392, 699, 700, 701, 702, 703, 705, 18, 706, 707, 709, 19, 710, 711, 713, 20, 714, 719] (by decide +kernel) (by decide +kernel) w h).1
set_option maxRecDepth 20000 in
theorem wsL_in_16 : ∀ w ∈ wsL_law_r16, w ∈ lw_tbl := fun w h => (goodIn_r wsL_law_r16 [720, 721, 726, 728, 23, 729, 393, 394, 395, 396, 397, 398, 399, 400, 401, 755, 756, 757, 758, 759, 761, 28, 762, 402] (by decide +kernel) (by decide +kernel) w h).1
set_option maxRecDepth 20000 in
theorem wsL_in_17 : ∀ w ∈ wsL_law_r17, w ∈ lw_tbl := fun w h => (goodIn_r wsL_law_r17 [403, 404, 405, 406, 407, 408, 409, 410, 411, 412, 413, 415, 7, 416, 417, 418, 420, 8, 421, 422, 424, 9, 425, 426] (by decide +kernel) (by decide +kernel) w h).1
set_option maxRecDepth 20000 in
theorem wsL_in_18 : ∀ w ∈ wsL_law_r18, w ∈ lw_tbl := fun w h => (goodIn_r wsL_law_r18 [428, 10, 429, 430, 432, 11, 433, 434, 435, 436, 437, 438, 439, 441, 442, 443, 444, 445, 446, 447, 448, 449, 450, 451] (by decide +kernel) (by decide +kernel) w h).1
set_option maxRecDepth 20000 in
theorem wsL_in_19 : ∀ w ∈ wsL_law_r19, w ∈ lw_tbl := fun w h => (goodIn_r wsL_law_r19 [763, 764, 765, 766, 767, 768, 770, 29, 771, 581, 772, 774, 30, 775, 776, 778, 31, 779, 780, 781, 782, 452, 453, 454] (by decide +kernel) (by decide +kernel) w h).1
set_option maxRecDepth 20000 in
theorem wsL_in_20 : ∀ w ∈ wsL_law_r20, w ∈ lw_tbl := fun w h => (goodIn_r wsL_law_r20 [455, 456, 457, 458, 459, 783, 784, 785, 786, 787, 460, 461, 462, 463, 788, 789, 790, 791, 464, 465, 466, 467, 468, 469] (by decide +kernel) (by decide +kernel) w h).1
set_option maxRecDepth 20000 in
theorem wsL_in_21 : ∀ w ∈ wsL_law_r21, w ∈ lw_tbl := fun w h => (goodIn_r wsL_law_r21 [470, 471, 472, 473, 474, 475, 476, 477, 478, 479, 481, 12, 482, 483, 484, 485, 486, 487, 488, 489, 490, 792, 793, 794] (by decide +kernel) (by decide +kernel) w h).1
set_option maxRecDepth 20000 in
theorem wsL_in_22 : ∀ w ∈ wsL_law_r22, w ∈ lw_tbl := fun w h => (goodIn_r wsL_law_r22 [795, 796, 798, 32, 799, 800, 802, 33, 803, 804, 806, 34, 807, 491, 492, 493, 494, 495, 496, 497, 498, 499, 500, 501] (by decide +kernel) (by decide +kernel) w h).1
set_option maxRecDepth 20000 in
theorem wsL_in_23 : ∀ w ∈ wsL_law_r23, w ∈ lw_tbl := fun w h => (goodIn_r wsL_law_r23 [503, 13, 504, 505, 507, 14, 508, 808, 809, 810, 811, 812, 814, 35, 815, 509, 510, 511, 512, 513, 514, 515, 516, 518] (by decide +kernel) (by decide +kernel) w h).1
set_option maxRecDepth 20000 in
theorem wsL_in_24 : ∀ w ∈ wsL_law_r24, w ∈ lw_tbl := fun w h => (goodIn_r wsL_law_r24 [520, 15, 521, 528, 529, 522, 523, 524, 525, 526, 527, 832, 833, 834, 835, 836, 837, 592, 820, 822, 36, 823, 838, 840] (by decide +kernel) (by decide +kernel) w h).1
set_option maxRecDepth 20000 in
theorem wsL_in_25 : ∀ w ∈ wsL_law_r25, w ∈ lw_tbl := fun w h => (goodIn_r wsL_law_r25 [38, 841, 842, 843, 844, 845, 828, 830, 37, 831, 530, 531, 532, 533, 816, 817, 818, 819, 590, 534, 535, 536, 537, 824] (by decide +kernel) (by decide +kernel) w h).1
set_option maxRecDepth 20000 in
theorem wsL_in_26 : ∀ w ∈ wsL_law_r26, w ∈ lw_tbl := fun w h => (goodIn_r wsL_law_r26 [825, 826, 827, 538, 539, 540, 541, 846, 847, 848, 849, 850, 852, 39, 853, 542, 543, 544, 545, 546, 547, 548, 549, 550] (by decide +kernel) (by decide +kernel) w h).1
set_option maxRecDepth 20000 in
theorem wsL_in_27 : ∀ w ∈ wsL_law_r27, w ∈ lw_tbl := fun w h => (goodIn_r wsL_law_r27 [551, 552, 553, 554, 854, 855, 856, 857, 858, 595, 859, 861, 40, 862, 863, 864, 866, 41, 867] (by decide +kernel) (by decide +kernel) w h).1
set_option maxRecDepth 20000 in
theorem inX4 : ∀ w ∈ wsX40, w ∈ lw_tbl := fun w h => (goodIn_r wsX40 [197, 199, 201, 203, 205, 207, 209, 211] (by decide +kernel) (by decide +kernel) w h).1
set_option maxRecDepth 20000 in
theorem inX5 : ∀ w ∈ wsX50, w ∈ lw_tbl := fun w h => (goodIn_r wsX50 [596, 598, 600, 602, 604, 606, 608, 610, 612, 614, 616, 618, 620, 622, 624, 626, 628, 630, 632, 634, 636, 638, 640, 642, 644, 646, 648, 650, 652, 654, 656, 658, 660, 662, 664] (by decide +kernel) (by decide +kernel) w h).1
set_option maxRecDepth 20000 in
theorem inX2 : ∀ w ∈ wsX20, w ∈ lw_tbl := fun w h => (goodIn_r wsX20 [68, 70] (by decide +kernel) (by decide +kernel) w h).1
set_option maxRecDepth 20000 in
theorem inX0 : ∀ w ∈ wsX00, w ∈ lw_tbl := fun w h => (goodIn_r wsX00 [87, 89, 91, 93] (by decide +kernel) (by decide +kernel) w h).1
set_option maxRecDepth 20000 in
theorem inX3 : ∀ w ∈ wsX30, w ∈ lw_tbl := fun w h => (goodIn_r wsX30 [127, 129, 131, 133, 135, 137, 139, 141, 143, 145, 147, 149] (by decide +kernel) (by decide +kernel) w h).1
set_option maxRecDepth 20000 in
theorem inX1 : ∀ w ∈ wsX10, w ∈ lw_tbl := fun w h => (goodIn_r wsX10 [168, 170, 172, 174, 176, 178, 180, 182, 184, 186] (by decide +kernel) (by decide +kernel) w h).1
theorem wsL_law_in : ∀ w ∈ wsL_law, w ∈ lw_tbl := List.forall_mem_append.mpr ⟨List.forall_mem_append.mpr ⟨List.forall_mem_append.mpr ⟨List.forall_mem_append.mpr ⟨List.forall_mem_append.mpr ⟨List.forall_mem_append.mpr ⟨List.forall_mem_append.mpr ⟨List.forall_mem_append.mpr ⟨wsL_in_1, List.forall_mem_append.mpr ⟨wsL_in_2, List.forall_mem_append.mpr ⟨wsL_in_3, List.forall_mem_append.mpr ⟨wsL_in_4, List.forall_mem_append.mpr ⟨wsL_in_5, List.forall_mem_append.mpr ⟨wsL_in_6, List.forall_mem_append.mpr ⟨wsL_in_7, List.forall_mem_append.mpr ⟨wsL_in_8, List.forall_mem_append.mpr ⟨wsL_in_9, List.forall_mem_append.mpr ⟨wsL_in_10, List.forall_mem_append.mpr ⟨wsL_in_11, List.forall_mem_append.mpr ⟨wsL_in_12, List.forall_mem_append.mpr ⟨wsL_in_13, List.forall_mem_append.mpr ⟨wsL_in_14, List.forall_mem_append.mpr ⟨wsL_in_15, List.forall_mem_append.mpr ⟨wsL_in_16, List.forall_mem_append.mpr ⟨wsL_in_17, List.forall_mem_append.mpr ⟨wsL_in_18, List.forall_mem_append.mpr ⟨wsL_in_19, List.forall_mem_append.mpr ⟨wsL_in_20, List.forall_mem_append.mpr ⟨wsL_in_21, List.forall_mem_append.mpr ⟨wsL_in_22, List.forall_mem_append.mpr ⟨wsL_in_23, List.forall_mem_append.mpr ⟨wsL_in_24, List.forall_mem_append.mpr ⟨wsL_in_25, List.forall_mem_append.mpr ⟨wsL_in_26, wsL_in_27⟩⟩⟩⟩⟩⟩⟩⟩⟩⟩⟩⟩⟩⟩⟩⟩⟩⟩⟩⟩⟩⟩⟩⟩⟩⟩, inX4⟩, inX5⟩, inX2⟩, inX0⟩, inX3⟩, inX1⟩, fun _ h => absurd h List.not_mem_nil⟩
theorem inlX0 : ∀ w ∈ wsX00, w ∈ wsL_law := fun _ h => List.mem_append_left _ (List.mem_append_left _ (List.mem_append_left _ (List.mem_append_right _ h)))
theorem inlX1 : ∀ w ∈ wsX10, w ∈ wsL_law := fun _ h => List.mem_append_left _ (List.mem_append_right _ h)
theorem inlX2 : ∀ w ∈ wsX20, w ∈ wsL_law := fun _ h => List.mem_append_left _ (List.mem_append_left _ (List.mem_append_left _ (List.mem_append_left _ (List.mem_append_right _ h))))
theorem inlX3 : ∀ w ∈ wsX30, w ∈ wsL_law := fun _ h => List.mem_append_left _ (List.mem_append_left _ (List.mem_append_right _ h))
theorem inlX4 : ∀ w ∈ wsX40, w ∈ wsL_law := fun _ h => List.mem_append_left _ (List.mem_append_left _ (List.mem_append_left _ (List.mem_append_left _ (List.mem_append_left _ (List.mem_append_left _ (List.mem_append_right _ h))))))
theorem inlX5 : ∀ w ∈ wsX50, w ∈ wsL_law := fun _ h => List.mem_append_left _ (List.mem_append_left _ (List.mem_append_left _ (List.mem_append_left _ (List.mem_append_left _ (List.mem_append_right _ h)))))
theorem inJ9 : ∀ w ∈ wsJ90, w ∈ lw_tbl := by decide +kernel
end
section
theorem dX0_init_0 : decode cX0_init 0 = .ok (.aload_n 0, 1) := by decide +kernel
theorem dX0_init_1 : decode cX0_init 1 = .ok (.invokespecial 3, 3) := by decide +kernel
theorem dX0_init_4 : decode cX0_init 4 = .ok (.aload_n 0, 1) := by decide +kernel
theorem dX0_init_5 : decode cX0_init 5 = .ok (.iconst 5, 1) := by decide +kernel
theorem dX0_init_6 : decode cX0_init 6 = .ok (.newarray .int, 2) := by decide +kernel
theorem dX0_init_8 : decode cX0_init 8 = .ok (.putfield 9, 3) := by decide +kernel
theorem dX0_init_11 : decode cX0_init 11 = .ok (.aload_n 0, 1) := by decide +kernel
theorem dX0_init_12 : decode cX0_init 12 = .ok (.iconst 5, 1) := by decide +kernel
theorem dX0_init_13 : decode cX0_init 13 = .ok (.newarray .int, 2) := by decide +kernel
theorem dX0_init_15 : decode cX0_init 15 = .ok (.putfield 15, 3) := by decide +kernel
theorem dX0_init_18 : decode cX0_init 18 = .ok (.return_, 1) := by decide +kernel
set_option maxRecDepth 20000 in
theorem ggX0_sitDown_X2_codeAt : GoodIn wsX0_sitDown wsX2_codeAt := goodIn_r _ [13, 14, 15, 16, 17, 18, 24, 25] (by decide +kernel) (by decide +kernel)
set_option maxRecDepth 20000 in
theorem gX0_sitDown_X2_codeAt : GoodIn wsX0_sitDown (wsV RX0 33 RX2 yX2_codeAt wsX2_codeAt) := goodIn_app (goodIn_of _ (by decide +kernel)) ggX0_sitDown_X2_codeAt
set_option maxRecDepth 20000 in
theorem ggX0_sitDown_X2_kindOf : GoodIn wsX0_sitDown wsX2_kindOf := goodIn_r _ [21] (by decide +kernel) (by decide +kernel)
set_option maxRecDepth 20000 in
theorem gX0_sitDown_X2_kindOf : GoodIn wsX0_sitDown (va_wsS RX0 37 yX2_kindOf wsX2_kindOf) := goodIn_app (goodIn_of _ (by decide +kernel)) ggX0_sitDown_X2_kindOf
set_option maxRecDepth 20000 in
theorem ggX0_sitDown_X4_put : GoodIn wsX0_sitDown wsX4_put := goodIn_r _ [23] (by decide +kernel) (by decide +kernel)
set_option maxRecDepth 20000 in
theorem gX0_sitDown_X4_put_n40 : GoodIn wsX0_sitDown (wsX4_put) := ggX0_sitDown_X4_put
theorem dX0_sitDown_0 : decode cX0_sitDown 0 = .ok (.aload_n 1, 1) := by decide +kernel
theorem dX0_sitDown_1 : decode cX0_sitDown 1 = .ok (.ifnonnull 4, 3) := by decide +kernel
theorem dX0_sitDown_4 : decode cX0_sitDown 4 = .ok (.return_, 1) := by decide +kernel
theorem dX0_sitDown_5 : decode cX0_sitDown 5 = .ok (.aload_n 0, 1) := by decide +kernel
theorem dX0_sitDown_6 : decode cX0_sitDown 6 = .ok (.aload_n 1, 1) := by decide +kernel
theorem dX0_sitDown_7 : decode cX0_sitDown 7 = .ok (.getfield 18, 3) := by decide +kernel
theorem dX0_sitDown_10 : decode cX0_sitDown 10 = .ok (.iconst 3, 1) := by decide +kernel
theorem dX0_sitDown_11 : decode cX0_sitDown 11 = .ok (.idiv, 1) := by decide +kernel
theorem dX0_sitDown_12 : decode cX0_sitDown 12 = .ok (.iconst 5, 1) := by decide +kernel
theorem dX0_sitDown_13 : decode cX0_sitDown 13 = .ok (.invokestatic 24, 3) := by decide +kernel
theorem dX0_sitDown_16 : decode cX0_sitDown 16 = .ok (.putfield 30, 3) := by decide +kernel
theorem dX0_sitDown_19 : decode cX0_sitDown 19 = .ok (.iconst 0, 1) := by decide +kernel
theorem dX0_sitDown_20 : decode cX0_sitDown 20 = .ok (.istore_n 2, 1) := by decide +kernel
theorem dX0_sitDown_21 : decode cX0_sitDown 21 = .ok (.iload_n 2, 1) := by decide +kernel
theorem dX0_sitDown_22 : decode cX0_sitDown 22 = .ok (.aload_n 0, 1) := by decide +kernel
theorem dX0_sitDown_23 : decode cX0_sitDown 23 = .ok (.getfield 30, 3) := by decide +kernel
theorem dX0_sitDown_26 : decode cX0_sitDown 26 = .ok (.if_icmp .ge 47, 3) := by decide +kernel
theorem dX0_sitDown_29 : decode cX0_sitDown 29 = .ok (.aload_n 0, 1) := by decide +kernel
theorem dX0_sitDown_30 : decode cX0_sitDown 30 = .ok (.getfield 9, 3) := by decide +kernel
theorem dX0_sitDown_33 : decode cX0_sitDown 33 = .ok (.iload_n 2, 1) := by decide +kernel
theorem dX0_sitDown_34 : decode cX0_sitDown 34 = .ok (.aload_n 1, 1) := by decide +kernel
theorem dX0_sitDown_35 : decode cX0_sitDown 35 = .ok (.iconst 3, 1) := by decide +kernel
theorem dX0_sitDown_36 : decode cX0_sitDown 36 = .ok (.iload_n 2, 1) := by decide +kernel
theorem dX0_sitDown_37 : decode cX0_sitDown 37 = .ok (.imul, 1) := by decide +kernel
theorem dX0_sitDown_38 : decode cX0_sitDown 38 = .ok (.invokevirtual 33, 3) := by decide +kernel
theorem dX0_sitDown_41 : decode cX0_sitDown 41 = .ok (.invokestatic 37, 3) := by decide +kernel
theorem dX0_sitDown_44 : decode cX0_sitDown 44 = .ok (.invokestatic 40, 3) := by decide +kernel
theorem dX0_sitDown_47 : decode cX0_sitDown 47 = .ok (.aload_n 0, 1) := by decide +kernel
theorem dX0_sitDown_48 : decode cX0_sitDown 48 = .ok (.getfield 15, 3) := by decide +kernel
theorem dX0_sitDown_51 : decode cX0_sitDown 51 = .ok (.iload_n 2, 1) := by decide +kernel
theorem dX0_sitDown_52 : decode cX0_sitDown 52 = .ok (.aload_n 1, 1) := by decide +kernel
theorem dX0_sitDown_53 : decode cX0_sitDown 53 = .ok (.iconst 3, 1) := by decide +kernel
theorem dX0_sitDown_54 : decode cX0_sitDown 54 = .ok (.iload_n 2, 1) := by decide +kernel
theorem dX0_sitDown_55 : decode cX0_sitDown 55 = .ok (.imul, 1) := by decide +kernel
theorem dX0_sitDown_56 : decode cX0_sitDown 56 = .ok (.iconst 1, 1) := by decide +kernel
theorem dX0_sitDown_57 : decode cX0_sitDown 57 = .ok (.iadd, 1) := by decide +kernel
theorem dX0_sitDown_58 : decode cX0_sitDown 58 = .ok (.invokevirtual 33, 3) := by decide +kernel
theorem dX0_sitDown_61 : decode cX0_sitDown 61 = .ok (.bipush 48, 2) := by decide +kernel
theorem dX0_sitDown_63 : decode cX0_sitDown 63 = .ok (.isub, 1) := by decide +kernel
theorem dX0_sitDown_64 : decode cX0_sitDown 64 = .ok (.invokestatic 40, 3) := by decide +kernel
theorem dX0_sitDown_67 : decode cX0_sitDown 67 = .ok (.iinc 2 1, 3) := by decide +kernel
theorem dX0_sitDown_70 : decode cX0_sitDown 70 = .ok (.goto (-49), 3) := by decide +kernel
theorem dX0_sitDown_73 : decode cX0_sitDown 73 = .ok (.aload_n 0, 1) := by decide +kernel
theorem dX0_sitDown_74 : decode cX0_sitDown 74 = .ok (.aload_n 1, 1) := by decide +kernel
theorem dX0_sitDown_75 : decode cX0_sitDown 75 = .ok (.aload_n 1, 1) := by decide +kernel
theorem dX0_sitDown_76 : decode cX0_sitDown 76 = .ok (.getfield 18, 3) := by decide +kernel
theorem dX0_sitDown_79 : decode cX0_sitDown 79 = .ok (.iconst 1, 1) := by decide +kernel
theorem dX0_sitDown_80 : decode cX0_sitDown 80 = .ok (.isub, 1) := by decide +kernel
theorem dX0_sitDown_81 : decode cX0_sitDown 81 = .ok (.invokevirtual 33, 3) := by decide +kernel
theorem dX0_sitDown_84 : decode cX0_sitDown 84 = .ok (.bipush 48, 2) := by decide +kernel
theorem dX0_sitDown_86 : decode cX0_sitDown 86 = .ok (.isub, 1) := by decide +kernel
theorem dX0_sitDown_87 : decode cX0_sitDown 87 = .ok (.putfield 44, 3) := by decide +kernel
theorem dX0_sitDown_90 : decode cX0_sitDown 90 = .ok (.return_, 1) := by decide +kernel
theorem dX0_isSet_0 : decode cX0_isSet 0 = .ok (.aload_n 0, 1) := by decide +kernel
theorem dX0_isSet_1 : decode cX0_isSet 1 = .ok (.getfield 30, 3) := by decide +kernel
theorem dX0_isSet_4 : decode cX0_isSet 4 = .ok (.ifCond .le 7, 3) := by decide +kernel
theorem dX0_isSet_7 : decode cX0_isSet 7 = .ok (.iconst 1, 1) := by decide +kernel
theorem dX0_isSet_8 : decode cX0_isSet 8 = .ok (.goto 4, 3) := by decide +kernel
theorem dX0_isSet_11 : decode cX0_isSet 11 = .ok (.iconst 0, 1) := by decide +kernel
theorem dX0_isSet_12 : decode cX0_isSet 12 = .ok (.ireturn, 1) := by decide +kernel
theorem dX0_has_0 : decode cX0_has 0 = .ok (.iload_n 1, 1) := by decide +kernel
theorem dX0_has_1 : decode cX0_has 1 = .ok (.ifCond .lt 15, 3) := by decide +kernel
theorem dX0_has_4 : decode cX0_has 4 = .ok (.iload_n 1, 1) := by decide +kernel
theorem dX0_has_5 : decode cX0_has 5 = .ok (.aload_n 0, 1) := by decide +kernel
theorem dX0_has_6 : decode cX0_has 6 = .ok (.getfield 30, 3) := by decide +kernel
theorem dX0_has_9 : decode cX0_has 9 = .ok (.if_icmp .ge 7, 3) := by decide +kernel
theorem dX0_has_12 : decode cX0_has 12 = .ok (.iconst 1, 1) := by decide +kernel
theorem dX0_has_13 : decode cX0_has 13 = .ok (.goto 4, 3) := by decide +kernel
theorem dX0_has_16 : decode cX0_has 16 = .ok (.iconst 0, 1) := by decide +kernel
theorem dX0_has_17 : decode cX0_has 17 = .ok (.ireturn, 1) := by decide +kernel
theorem dX0_namesOnlySeats_0 : decode cX0_namesOnlySeats 0 = .ok (.iload_n 1, 1) := by decide +kernel
theorem dX0_namesOnlySeats_1 : decode cX0_namesOnlySeats 1 = .ok (.ifCond .lt 17, 3) := by decide +kernel
theorem dX0_namesOnlySeats_4 : decode cX0_namesOnlySeats 4 = .ok (.iload_n 1, 1) := by decide +kernel
theorem dX0_namesOnlySeats_5 : decode cX0_namesOnlySeats 5 = .ok (.iconst 1, 1) := by decide +kernel
theorem dX0_namesOnlySeats_6 : decode cX0_namesOnlySeats 6 = .ok (.aload_n 0, 1) := by decide +kernel
theorem dX0_namesOnlySeats_7 : decode cX0_namesOnlySeats 7 = .ok (.getfield 30, 3) := by decide +kernel
theorem dX0_namesOnlySeats_10 : decode cX0_namesOnlySeats 10 = .ok (.ishl, 1) := by decide +kernel
theorem dX0_namesOnlySeats_11 : decode cX0_namesOnlySeats 11 = .ok (.if_icmp .ge 7, 3) := by decide +kernel
theorem dX0_namesOnlySeats_14 : decode cX0_namesOnlySeats 14 = .ok (.iconst 1, 1) := by decide +kernel
theorem dX0_namesOnlySeats_15 : decode cX0_namesOnlySeats 15 = .ok (.goto 4, 3) := by decide +kernel
theorem dX0_namesOnlySeats_18 : decode cX0_namesOnlySeats 18 = .ok (.iconst 0, 1) := by decide +kernel
theorem dX0_namesOnlySeats_19 : decode cX0_namesOnlySeats 19 = .ok (.ireturn, 1) := by decide +kernel
theorem dX0_kindAt_0 : decode cX0_kindAt 0 = .ok (.iload_n 1, 1) := by decide +kernel
theorem dX0_kindAt_1 : decode cX0_kindAt 1 = .ok (.ifCond .lt 29, 3) := by decide +kernel
theorem dX0_kindAt_4 : decode cX0_kindAt 4 = .ok (.iload_n 1, 1) := by decide +kernel
theorem dX0_kindAt_5 : decode cX0_kindAt 5 = .ok (.aload_n 0, 1) := by decide +kernel
theorem dX0_kindAt_6 : decode cX0_kindAt 6 = .ok (.getfield 30, 3) := by decide +kernel
theorem dX0_kindAt_9 : decode cX0_kindAt 9 = .ok (.if_icmp .ge 21, 3) := by decide +kernel
theorem dX0_kindAt_12 : decode cX0_kindAt 12 = .ok (.iload_n 1, 1) := by decide +kernel
theorem dX0_kindAt_13 : decode cX0_kindAt 13 = .ok (.aload_n 0, 1) := by decide +kernel
theorem dX0_kindAt_14 : decode cX0_kindAt 14 = .ok (.getfield 9, 3) := by decide +kernel
theorem dX0_kindAt_17 : decode cX0_kindAt 17 = .ok (.arraylength, 1) := by decide +kernel
theorem dX0_kindAt_18 : decode cX0_kindAt 18 = .ok (.if_icmp .ge 12, 3) := by decide +kernel
theorem dX0_kindAt_21 : decode cX0_kindAt 21 = .ok (.aload_n 0, 1) := by decide +kernel
theorem dX0_kindAt_22 : decode cX0_kindAt 22 = .ok (.getfield 9, 3) := by decide +kernel
theorem dX0_kindAt_25 : decode cX0_kindAt 25 = .ok (.iload_n 1, 1) := by decide +kernel
theorem dX0_kindAt_26 : decode cX0_kindAt 26 = .ok (.iaload, 1) := by decide +kernel
theorem dX0_kindAt_27 : decode cX0_kindAt 27 = .ok (.goto 4, 3) := by decide +kernel
theorem dX0_kindAt_30 : decode cX0_kindAt 30 = .ok (.iconst (-1), 1) := by decide +kernel
theorem dX0_kindAt_31 : decode cX0_kindAt 31 = .ok (.ireturn, 1) := by decide +kernel
theorem dX0_sideAt_0 : decode cX0_sideAt 0 = .ok (.iload_n 1, 1) := by decide +kernel
theorem dX0_sideAt_1 : decode cX0_sideAt 1 = .ok (.ifCond .lt 29, 3) := by decide +kernel
theorem dX0_sideAt_4 : decode cX0_sideAt 4 = .ok (.iload_n 1, 1) := by decide +kernel
theorem dX0_sideAt_5 : decode cX0_sideAt 5 = .ok (.aload_n 0, 1) := by decide +kernel
theorem dX0_sideAt_6 : decode cX0_sideAt 6 = .ok (.getfield 30, 3) := by decide +kernel
theorem dX0_sideAt_9 : decode cX0_sideAt 9 = .ok (.if_icmp .ge 21, 3) := by decide +kernel
theorem dX0_sideAt_12 : decode cX0_sideAt 12 = .ok (.iload_n 1, 1) := by decide +kernel
theorem dX0_sideAt_13 : decode cX0_sideAt 13 = .ok (.aload_n 0, 1) := by decide +kernel
theorem dX0_sideAt_14 : decode cX0_sideAt 14 = .ok (.getfield 15, 3) := by decide +kernel
theorem dX0_sideAt_17 : decode cX0_sideAt 17 = .ok (.arraylength, 1) := by decide +kernel
theorem dX0_sideAt_18 : decode cX0_sideAt 18 = .ok (.if_icmp .ge 12, 3) := by decide +kernel
theorem dX0_sideAt_21 : decode cX0_sideAt 21 = .ok (.aload_n 0, 1) := by decide +kernel
theorem dX0_sideAt_22 : decode cX0_sideAt 22 = .ok (.getfield 15, 3) := by decide +kernel
theorem dX0_sideAt_25 : decode cX0_sideAt 25 = .ok (.iload_n 1, 1) := by decide +kernel
theorem dX0_sideAt_26 : decode cX0_sideAt 26 = .ok (.iaload, 1) := by decide +kernel
theorem dX0_sideAt_27 : decode cX0_sideAt 27 = .ok (.goto 4, 3) := by decide +kernel
theorem dX0_sideAt_30 : decode cX0_sideAt 30 = .ok (.iconst (-1), 1) := by decide +kernel
theorem dX0_sideAt_31 : decode cX0_sideAt 31 = .ok (.ireturn, 1) := by decide +kernel
set_option maxRecDepth 20000 in
theorem ggX0_isOf_X0_kindAt : GoodIn wsX0_isOf wsX0_kindAt := goodIn_r _ [5, 6, 7, 12, 13, 14, 15] (by decide +kernel) (by decide +kernel)
set_option maxRecDepth 20000 in
theorem gX0_isOf_X0_kindAt : GoodIn wsX0_isOf (wsV RX0 47 RX0 yX0_kindAt wsX0_kindAt) := goodIn_app (goodIn_of _ (by decide +kernel)) ggX0_isOf_X0_kindAt
set_option maxRecDepth 20000 in
theorem ggX0_isOf_X0_has : GoodIn wsX0_isOf wsX0_has := goodIn_r _ [11, 6, 12, 13, 14, 15] (by decide +kernel) (by decide +kernel)
set_option maxRecDepth 20000 in
theorem gX0_isOf_X0_has : GoodIn wsX0_isOf (wsV RX0 50 RX0 yX0_has wsX0_has) := goodIn_app (goodIn_of _ (by decide +kernel)) ggX0_isOf_X0_has
theorem dX0_isOf_0 : decode cX0_isOf 0 = .ok (.aload_n 0, 1) := by decide +kernel
theorem dX0_isOf_1 : decode cX0_isOf 1 = .ok (.iload_n 1, 1) := by decide +kernel
theorem dX0_isOf_2 : decode cX0_isOf 2 = .ok (.invokevirtual 47, 3) := by decide +kernel
theorem dX0_isOf_5 : decode cX0_isOf 5 = .ok (.istore_n 3, 1) := by decide +kernel
theorem dX0_isOf_6 : decode cX0_isOf 6 = .ok (.aload_n 0, 1) := by decide +kernel
theorem dX0_isOf_7 : decode cX0_isOf 7 = .ok (.iload_n 1, 1) := by decide +kernel
theorem dX0_isOf_8 : decode cX0_isOf 8 = .ok (.invokevirtual 50, 3) := by decide +kernel
theorem dX0_isOf_11 : decode cX0_isOf 11 = .ok (.ifCond .eq 26, 3) := by decide +kernel
theorem dX0_isOf_14 : decode cX0_isOf 14 = .ok (.iload_n 2, 1) := by decide +kernel
theorem dX0_isOf_15 : decode cX0_isOf 15 = .ok (.ifCond .eq 18, 3) := by decide +kernel
theorem dX0_isOf_18 : decode cX0_isOf 18 = .ok (.iload_n 2, 1) := by decide +kernel
theorem dX0_isOf_19 : decode cX0_isOf 19 = .ok (.iload_n 3, 1) := by decide +kernel
theorem dX0_isOf_20 : decode cX0_isOf 20 = .ok (.if_icmp .eq 13, 3) := by decide +kernel
theorem dX0_isOf_23 : decode cX0_isOf 23 = .ok (.iload_n 2, 1) := by decide +kernel
theorem dX0_isOf_24 : decode cX0_isOf 24 = .ok (.iconst 1, 1) := by decide +kernel
theorem dX0_isOf_25 : decode cX0_isOf 25 = .ok (.if_icmp .ne 12, 3) := by decide +kernel
theorem dX0_isOf_28 : decode cX0_isOf 28 = .ok (.iload_n 3, 1) := by decide +kernel
theorem dX0_isOf_29 : decode cX0_isOf 29 = .ok (.iconst 4, 1) := by decide +kernel
theorem dX0_isOf_30 : decode cX0_isOf 30 = .ok (.if_icmp .ne 7, 3) := by decide +kernel
theorem dX0_isOf_33 : decode cX0_isOf 33 = .ok (.iconst 1, 1) := by decide +kernel
theorem dX0_isOf_34 : decode cX0_isOf 34 = .ok (.goto 4, 3) := by decide +kernel
theorem dX0_isOf_37 : decode cX0_isOf 37 = .ok (.iconst 0, 1) := by decide +kernel
theorem dX0_isOf_38 : decode cX0_isOf 38 = .ok (.ireturn, 1) := by decide +kernel
set_option maxRecDepth 20000 in
theorem ggX0_counts_X0_kindAt : GoodIn wsX0_counts wsX0_kindAt := goodIn_r _ [5, 6, 7, 15, 16, 17, 18] (by decide +kernel) (by decide +kernel)
set_option maxRecDepth 20000 in
theorem gX0_counts_X0_kindAt : GoodIn wsX0_counts (wsV RX0 47 RX0 yX0_kindAt wsX0_kindAt) := goodIn_app (goodIn_of _ (by decide +kernel)) ggX0_counts_X0_kindAt
set_option maxRecDepth 20000 in
theorem ggX0_counts_X4_isIn : GoodIn wsX0_counts wsX4_isIn := goodIn_r _ [10] (by decide +kernel) (by decide +kernel)
set_option maxRecDepth 20000 in
theorem gX0_counts_X4_isIn_n54 : GoodIn wsX0_counts (wsX4_isIn) := ggX0_counts_X4_isIn
set_option maxRecDepth 20000 in
theorem ggX0_counts_X0_sitsBeside : GoodIn wsX0_counts wsX0_sitsBeside := goodIn_r _ [14, 6, 15, 16, 17, 18] (by decide +kernel) (by decide +kernel)
set_option maxRecDepth 20000 in
theorem gX0_counts_X0_sitsBeside : GoodIn wsX0_counts (wsV RX0 58 RX0 yX0_sitsBeside wsX0_sitsBeside) := goodIn_app (goodIn_of _ (by decide +kernel)) ggX0_counts_X0_sitsBeside
theorem dX0_counts_0 : decode cX0_counts 0 = .ok (.aload_n 0, 1) := by decide +kernel
theorem dX0_counts_1 : decode cX0_counts 1 = .ok (.iload_n 1, 1) := by decide +kernel
theorem dX0_counts_2 : decode cX0_counts 2 = .ok (.invokevirtual 47, 3) := by decide +kernel
theorem dX0_counts_5 : decode cX0_counts 5 = .ok (.istore 4, 2) := by decide +kernel
theorem dX0_counts_7 : decode cX0_counts 7 = .ok (.iload 4, 2) := by decide +kernel
theorem dX0_counts_9 : decode cX0_counts 9 = .ok (.iconst (-1), 1) := by decide +kernel
theorem dX0_counts_10 : decode cX0_counts 10 = .ok (.if_icmp .eq 17, 3) := by decide +kernel
theorem dX0_counts_13 : decode cX0_counts 13 = .ok (.iload 4, 2) := by decide +kernel
theorem dX0_counts_15 : decode cX0_counts 15 = .ok (.iconst 4, 1) := by decide +kernel
theorem dX0_counts_16 : decode cX0_counts 16 = .ok (.if_icmp .eq 11, 3) := by decide +kernel
theorem dX0_counts_19 : decode cX0_counts 19 = .ok (.iload_n 1, 1) := by decide +kernel
theorem dX0_counts_20 : decode cX0_counts 20 = .ok (.iload_n 3, 1) := by decide +kernel
theorem dX0_counts_21 : decode cX0_counts 21 = .ok (.invokestatic 54, 3) := by decide +kernel
theorem dX0_counts_24 : decode cX0_counts 24 = .ok (.ifCond .eq 5, 3) := by decide +kernel
theorem dX0_counts_27 : decode cX0_counts 27 = .ok (.iconst 0, 1) := by decide +kernel
theorem dX0_counts_28 : decode cX0_counts 28 = .ok (.ireturn, 1) := by decide +kernel
theorem dX0_counts_29 : decode cX0_counts 29 = .ok (.iload 4, 2) := by decide +kernel
theorem dX0_counts_31 : decode cX0_counts 31 = .ok (.iconst 1, 1) := by decide +kernel
theorem dX0_counts_32 : decode cX0_counts 32 = .ok (.if_icmp .ne 12, 3) := by decide +kernel
theorem dX0_counts_35 : decode cX0_counts 35 = .ok (.aload_n 0, 1) := by decide +kernel
theorem dX0_counts_36 : decode cX0_counts 36 = .ok (.iload_n 2, 1) := by decide +kernel
theorem dX0_counts_37 : decode cX0_counts 37 = .ok (.iload_n 1, 1) := by decide +kernel
theorem dX0_counts_38 : decode cX0_counts 38 = .ok (.invokevirtual 58, 3) := by decide +kernel
theorem dX0_counts_41 : decode cX0_counts 41 = .ok (.ifCond .eq 7, 3) := by decide +kernel
theorem dX0_counts_44 : decode cX0_counts 44 = .ok (.iconst 1, 1) := by decide +kernel
theorem dX0_counts_45 : decode cX0_counts 45 = .ok (.goto 4, 3) := by decide +kernel
theorem dX0_counts_48 : decode cX0_counts 48 = .ok (.iconst 0, 1) := by decide +kernel
theorem dX0_counts_49 : decode cX0_counts 49 = .ok (.ireturn, 1) := by decide +kernel
theorem dX0_sitsBeside_0 : decode cX0_sitsBeside 0 = .ok (.iload_n 1, 1) := by decide +kernel
theorem dX0_sitsBeside_1 : decode cX0_sitsBeside 1 = .ok (.ifCond .lt 29, 3) := by decide +kernel
theorem dX0_sitsBeside_4 : decode cX0_sitsBeside 4 = .ok (.iload_n 1, 1) := by decide +kernel
theorem dX0_sitsBeside_5 : decode cX0_sitsBeside 5 = .ok (.aload_n 0, 1) := by decide +kernel
theorem dX0_sitsBeside_6 : decode cX0_sitsBeside 6 = .ok (.getfield 30, 3) := by decide +kernel
theorem dX0_sitsBeside_9 : decode cX0_sitsBeside 9 = .ok (.if_icmp .ge 21, 3) := by decide +kernel
theorem dX0_sitsBeside_12 : decode cX0_sitsBeside 12 = .ok (.iload_n 1, 1) := by decide +kernel
theorem dX0_sitsBeside_13 : decode cX0_sitsBeside 13 = .ok (.iload_n 2, 1) := by decide +kernel
theorem dX0_sitsBeside_14 : decode cX0_sitsBeside 14 = .ok (.iconst 1, 1) := by decide +kernel
theorem dX0_sitsBeside_15 : decode cX0_sitsBeside 15 = .ok (.isub, 1) := by decide +kernel
theorem dX0_sitsBeside_16 : decode cX0_sitsBeside 16 = .ok (.if_icmp .eq 10, 3) := by decide +kernel
theorem dX0_sitsBeside_19 : decode cX0_sitsBeside 19 = .ok (.iload_n 1, 1) := by decide +kernel
theorem dX0_sitsBeside_20 : decode cX0_sitsBeside 20 = .ok (.iload_n 2, 1) := by decide +kernel
theorem dX0_sitsBeside_21 : decode cX0_sitsBeside 21 = .ok (.iconst 1, 1) := by decide +kernel
theorem dX0_sitsBeside_22 : decode cX0_sitsBeside 22 = .ok (.iadd, 1) := by decide +kernel
theorem dX0_sitsBeside_23 : decode cX0_sitsBeside 23 = .ok (.if_icmp .ne 7, 3) := by decide +kernel
theorem dX0_sitsBeside_26 : decode cX0_sitsBeside 26 = .ok (.iconst 1, 1) := by decide +kernel
theorem dX0_sitsBeside_27 : decode cX0_sitsBeside 27 = .ok (.goto 4, 3) := by decide +kernel
theorem dX0_sitsBeside_30 : decode cX0_sitsBeside 30 = .ok (.iconst 0, 1) := by decide +kernel
theorem dX0_sitsBeside_31 : decode cX0_sitsBeside 31 = .ok (.ireturn, 1) := by decide +kernel
set_option maxRecDepth 20000 in
theorem ggX0_believedBehind_X0_kindAt : GoodIn wsX0_believedBehind wsX0_kindAt := goodIn_r _ [6, 1, 7, 8, 9, 10, 11] (by decide +kernel) (by decide +kernel)
set_option maxRecDepth 20000 in
theorem gX0_believedBehind_X0_kindAt : GoodIn wsX0_believedBehind (wsV RX0 47 RX0 yX0_kindAt wsX0_kindAt) := goodIn_app (goodIn_of _ (by decide +kernel)) ggX0_believedBehind_X0_kindAt
theorem dX0_believedBehind_0 : decode cX0_believedBehind 0 = .ok (.aload_n 0, 1) := by decide +kernel
theorem dX0_believedBehind_1 : decode cX0_believedBehind 1 = .ok (.iload_n 1, 1) := by decide +kernel
theorem dX0_believedBehind_2 : decode cX0_believedBehind 2 = .ok (.invokevirtual 47, 3) := by decide +kernel
theorem dX0_believedBehind_5 : decode cX0_believedBehind 5 = .ok (.istore_n 3, 1) := by decide +kernel
theorem dX0_believedBehind_6 : decode cX0_believedBehind 6 = .ok (.iload_n 2, 1) := by decide +kernel
theorem dX0_believedBehind_7 : decode cX0_believedBehind 7 = .ok (.iconst (-1), 1) := by decide +kernel
theorem dX0_believedBehind_8 : decode cX0_believedBehind 8 = .ok (.if_icmp .eq 8, 3) := by decide +kernel
theorem dX0_believedBehind_11 : decode cX0_believedBehind 11 = .ok (.iload_n 3, 1) := by decide +kernel
theorem dX0_believedBehind_12 : decode cX0_believedBehind 12 = .ok (.iconst 2, 1) := by decide +kernel
theorem dX0_believedBehind_13 : decode cX0_believedBehind 13 = .ok (.if_icmp .ne 5, 3) := by decide +kernel
theorem dX0_believedBehind_16 : decode cX0_believedBehind 16 = .ok (.iconst (-1), 1) := by decide +kernel
theorem dX0_believedBehind_17 : decode cX0_believedBehind 17 = .ok (.ireturn, 1) := by decide +kernel
theorem dX0_believedBehind_18 : decode cX0_believedBehind 18 = .ok (.iload_n 3, 1) := by decide +kernel
theorem dX0_believedBehind_19 : decode cX0_believedBehind 19 = .ok (.iconst 3, 1) := by decide +kernel
theorem dX0_believedBehind_20 : decode cX0_believedBehind 20 = .ok (.if_icmp .ne 20, 3) := by decide +kernel
theorem dX0_believedBehind_23 : decode cX0_believedBehind 23 = .ok (.iload_n 1, 1) := by decide +kernel
theorem dX0_believedBehind_24 : decode cX0_believedBehind 24 = .ok (.ifCond .ne 12, 3) := by decide +kernel
theorem dX0_believedBehind_27 : decode cX0_believedBehind 27 = .ok (.aload_n 0, 1) := by decide +kernel
theorem dX0_believedBehind_28 : decode cX0_believedBehind 28 = .ok (.getfield 30, 3) := by decide +kernel
theorem dX0_believedBehind_31 : decode cX0_believedBehind 31 = .ok (.iconst 1, 1) := by decide +kernel
theorem dX0_believedBehind_32 : decode cX0_believedBehind 32 = .ok (.isub, 1) := by decide +kernel
theorem dX0_believedBehind_33 : decode cX0_believedBehind 33 = .ok (.goto 6, 3) := by decide +kernel
theorem dX0_believedBehind_36 : decode cX0_believedBehind 36 = .ok (.iload_n 1, 1) := by decide +kernel
theorem dX0_believedBehind_37 : decode cX0_believedBehind 37 = .ok (.iconst 1, 1) := by decide +kernel
theorem dX0_believedBehind_38 : decode cX0_believedBehind 38 = .ok (.isub, 1) := by decide +kernel
theorem dX0_believedBehind_39 : decode cX0_believedBehind 39 = .ok (.ireturn, 1) := by decide +kernel
theorem dX0_believedBehind_40 : decode cX0_believedBehind 40 = .ok (.iload_n 1, 1) := by decide +kernel
theorem dX0_believedBehind_41 : decode cX0_believedBehind 41 = .ok (.ireturn, 1) := by decide +kernel
set_option maxRecDepth 20000 in
theorem ggX0_lastBehind_X0_kindAt : GoodIn wsX0_lastBehind wsX0_kindAt := goodIn_r _ [5, 6, 7, 8, 9, 10, 11] (by decide +kernel) (by decide +kernel)
set_option maxRecDepth 20000 in
theorem gX0_lastBehind_X0_kindAt : GoodIn wsX0_lastBehind (wsV RX0 47 RX0 yX0_kindAt wsX0_kindAt) := goodIn_app (goodIn_of _ (by decide +kernel)) ggX0_lastBehind_X0_kindAt
theorem dX0_lastBehind_0 : decode cX0_lastBehind 0 = .ok (.aload_n 0, 1) := by decide +kernel
theorem dX0_lastBehind_1 : decode cX0_lastBehind 1 = .ok (.iload_n 1, 1) := by decide +kernel
theorem dX0_lastBehind_2 : decode cX0_lastBehind 2 = .ok (.invokevirtual 47, 3) := by decide +kernel
theorem dX0_lastBehind_5 : decode cX0_lastBehind 5 = .ok (.iconst 2, 1) := by decide +kernel
theorem dX0_lastBehind_6 : decode cX0_lastBehind 6 = .ok (.if_icmp .ne 7, 3) := by decide +kernel
theorem dX0_lastBehind_9 : decode cX0_lastBehind 9 = .ok (.iconst 5, 1) := by decide +kernel
theorem dX0_lastBehind_10 : decode cX0_lastBehind 10 = .ok (.goto 4, 3) := by decide +kernel
theorem dX0_lastBehind_13 : decode cX0_lastBehind 13 = .ok (.iload_n 1, 1) := by decide +kernel
theorem dX0_lastBehind_14 : decode cX0_lastBehind 14 = .ok (.ireturn, 1) := by decide +kernel
theorem dX1_init_0 : decode cX1_init 0 = .ok (.aload_n 0, 1) := by decide +kernel
theorem dX1_init_1 : decode cX1_init 1 = .ok (.invokespecial 3, 3) := by decide +kernel
theorem dX1_init_4 : decode cX1_init 4 = .ok (.aload_n 0, 1) := by decide +kernel
theorem dX1_init_5 : decode cX1_init 5 = .ok (.bipush 35, 2) := by decide +kernel
theorem dX1_init_7 : decode cX1_init 7 = .ok (.newarray .int, 2) := by decide +kernel
theorem dX1_init_9 : decode cX1_init 9 = .ok (.putfield 9, 3) := by decide +kernel
theorem dX1_init_12 : decode cX1_init 12 = .ok (.aload_n 0, 1) := by decide +kernel
theorem dX1_init_13 : decode cX1_init 13 = .ok (.bipush 35, 2) := by decide +kernel
theorem dX1_init_15 : decode cX1_init 15 = .ok (.newarray .int, 2) := by decide +kernel
theorem dX1_init_17 : decode cX1_init 17 = .ok (.putfield 15, 3) := by decide +kernel
theorem dX1_init_20 : decode cX1_init 20 = .ok (.aload_n 0, 1) := by decide +kernel
theorem dX1_init_21 : decode cX1_init 21 = .ok (.bipush 7, 2) := by decide +kernel
theorem dX1_init_23 : decode cX1_init 23 = .ok (.newarray .int, 2) := by decide +kernel
theorem dX1_init_25 : decode cX1_init 25 = .ok (.putfield 18, 3) := by decide +kernel
theorem dX1_init_28 : decode cX1_init 28 = .ok (.aload_n 0, 1) := by decide +kernel
theorem dX1_init_29 : decode cX1_init 29 = .ok (.bipush 42, 2) := by decide +kernel
theorem dX1_init_31 : decode cX1_init 31 = .ok (.newarray .int, 2) := by decide +kernel
theorem dX1_init_33 : decode cX1_init 33 = .ok (.putfield 21, 3) := by decide +kernel
theorem dX1_init_36 : decode cX1_init 36 = .ok (.aload_n 0, 1) := by decide +kernel
theorem dX1_init_37 : decode cX1_init 37 = .ok (.bipush 42, 2) := by decide +kernel
theorem dX1_init_39 : decode cX1_init 39 = .ok (.newarray .int, 2) := by decide +kernel
theorem dX1_init_41 : decode cX1_init 41 = .ok (.putfield 24, 3) := by decide +kernel
theorem dX1_init_44 : decode cX1_init 44 = .ok (.aload_n 0, 1) := by decide +kernel
theorem dX1_init_45 : decode cX1_init 45 = .ok (.bipush 49, 2) := by decide +kernel
theorem dX1_init_47 : decode cX1_init 47 = .ok (.newarray .int, 2) := by decide +kernel
theorem dX1_init_49 : decode cX1_init 49 = .ok (.putfield 27, 3) := by decide +kernel
theorem dX1_init_52 : decode cX1_init 52 = .ok (.aload_n 0, 1) := by decide +kernel
theorem dX1_init_53 : decode cX1_init 53 = .ok (.bipush 49, 2) := by decide +kernel
theorem dX1_init_55 : decode cX1_init 55 = .ok (.newarray .int, 2) := by decide +kernel
theorem dX1_init_57 : decode cX1_init 57 = .ok (.putfield 30, 3) := by decide +kernel
theorem dX1_init_60 : decode cX1_init 60 = .ok (.aload_n 0, 1) := by decide +kernel
theorem dX1_init_61 : decode cX1_init 61 = .ok (.bipush 6, 2) := by decide +kernel
theorem dX1_init_63 : decode cX1_init 63 = .ok (.newarray .int, 2) := by decide +kernel
theorem dX1_init_65 : decode cX1_init 65 = .ok (.putfield 33, 3) := by decide +kernel
theorem dX1_init_68 : decode cX1_init 68 = .ok (.aload_n 0, 1) := by decide +kernel
theorem dX1_init_69 : decode cX1_init 69 = .ok (.aload_n 1, 1) := by decide +kernel
theorem dX1_init_70 : decode cX1_init 70 = .ok (.putfield 36, 3) := by decide +kernel
theorem dX1_init_73 : decode cX1_init 73 = .ok (.aload_n 0, 1) := by decide +kernel
theorem dX1_init_74 : decode cX1_init 74 = .ok (.aload_n 2, 1) := by decide +kernel
theorem dX1_init_75 : decode cX1_init 75 = .ok (.putfield 40, 3) := by decide +kernel
theorem dX1_init_78 : decode cX1_init 78 = .ok (.return_, 1) := by decide +kernel
set_option maxRecDepth 20000 in
theorem ggX1_tableWords_X0_counts : GoodIn wsX1_tableWords wsX0_counts := goodIn_r _ [9, 10, 11, 12, 8, 13, 14, 15, 16, 17, 18, 19, 20, 21, 22, 59, 60, 61, 62] (by decide +kernel) (by decide +kernel)
set_option maxRecDepth 20000 in
theorem gX1_tableWords_X0_counts : GoodIn wsX1_tableWords (wsV RX1 50 RX0 yX0_counts wsX0_counts) := goodIn_app (goodIn_of _ (by decide +kernel)) ggX1_tableWords_X0_counts
set_option maxRecDepth 20000 in
theorem ggX1_tableWords_X1_wordPlace : GoodIn wsX1_tableWords wsX1_wordPlace := goodIn_r _ [26] (by decide +kernel) (by decide +kernel)
set_option maxRecDepth 20000 in
theorem gX1_tableWords_X1_wordPlace : GoodIn wsX1_tableWords (va_wsS RX1 56 yX1_wordPlace wsX1_wordPlace) := goodIn_app (goodIn_of _ (by decide +kernel)) ggX1_tableWords_X1_wordPlace
set_option maxRecDepth 20000 in
theorem ggX1_tableWords_X0_lastBehind : GoodIn wsX1_tableWords wsX0_lastBehind := goodIn_r _ [30, 10, 11, 12, 8, 13, 14, 15, 59, 60, 61, 62] (by decide +kernel) (by decide +kernel)
set_option maxRecDepth 20000 in
theorem gX1_tableWords_X0_lastBehind : GoodIn wsX1_tableWords (wsV RX1 60 RX0 yX0_lastBehind wsX0_lastBehind) := goodIn_app (goodIn_of _ (by decide +kernel)) ggX1_tableWords_X0_lastBehind
set_option maxRecDepth 20000 in
theorem ggX1_tableWords_X4_put : GoodIn wsX1_tableWords wsX4_put := goodIn_r _ [32] (by decide +kernel) (by decide +kernel)
set_option maxRecDepth 20000 in
theorem gX1_tableWords_X4_put_n64 : GoodIn wsX1_tableWords (wsX4_put) := ggX1_tableWords_X4_put
set_option maxRecDepth 20000 in
theorem ggX1_tableWords_X0_believedBehind : GoodIn wsX1_tableWords wsX0_believedBehind := goodIn_r _ [36, 14, 10, 11, 12, 8, 13, 15, 59, 60, 61, 62] (by decide +kernel) (by decide +kernel)
set_option maxRecDepth 20000 in
theorem gX1_tableWords_X0_believedBehind : GoodIn wsX1_tableWords (wsV RX1 68 RX0 yX0_believedBehind wsX0_believedBehind) := goodIn_app (goodIn_of _ (by decide +kernel)) ggX1_tableWords_X0_believedBehind
theorem dX1_tableWords_0 : decode cX1_tableWords 0 = .ok (.iconst (-1), 1) := by decide +kernel
theorem dX1_tableWords_1 : decode cX1_tableWords 1 = .ok (.istore_n 1, 1) := by decide +kernel
theorem dX1_tableWords_2 : decode cX1_tableWords 2 = .ok (.iload_n 1, 1) := by decide +kernel
theorem dX1_tableWords_3 : decode cX1_tableWords 3 = .ok (.iconst 5, 1) := by decide +kernel
theorem dX1_tableWords_4 : decode cX1_tableWords 4 = .ok (.if_icmp .gt 110, 3) := by decide +kernel
theorem dX1_tableWords_7 : decode cX1_tableWords 7 = .ok (.iconst 0, 1) := by decide +kernel
theorem dX1_tableWords_8 : decode cX1_tableWords 8 = .ok (.istore_n 2, 1) := by decide +kernel
theorem dX1_tableWords_9 : decode cX1_tableWords 9 = .ok (.iload_n 2, 1) := by decide +kernel
theorem dX1_tableWords_10 : decode cX1_tableWords 10 = .ok (.iconst 5, 1) := by decide +kernel
theorem dX1_tableWords_11 : decode cX1_tableWords 11 = .ok (.if_icmp .ge 97, 3) := by decide +kernel
theorem dX1_tableWords_14 : decode cX1_tableWords 14 = .ok (.iload_n 2, 1) := by decide +kernel
theorem dX1_tableWords_15 : decode cX1_tableWords 15 = .ok (.iload_n 1, 1) := by decide +kernel
theorem dX1_tableWords_16 : decode cX1_tableWords 16 = .ok (.if_icmp .eq 26, 3) := by decide +kernel
theorem dX1_tableWords_19 : decode cX1_tableWords 19 = .ok (.aload_n 0, 1) := by decide +kernel
theorem dX1_tableWords_20 : decode cX1_tableWords 20 = .ok (.getfield 36, 3) := by decide +kernel
theorem dX1_tableWords_23 : decode cX1_tableWords 23 = .ok (.iload_n 2, 1) := by decide +kernel
theorem dX1_tableWords_24 : decode cX1_tableWords 24 = .ok (.iload_n 1, 1) := by decide +kernel
theorem dX1_tableWords_25 : decode cX1_tableWords 25 = .ok (.aload_n 0, 1) := by decide +kernel
theorem dX1_tableWords_26 : decode cX1_tableWords 26 = .ok (.getfield 40, 3) := by decide +kernel
theorem dX1_tableWords_29 : decode cX1_tableWords 29 = .ok (.getfield 44, 3) := by decide +kernel
theorem dX1_tableWords_32 : decode cX1_tableWords 32 = .ok (.invokevirtual 50, 3) := by decide +kernel
theorem dX1_tableWords_35 : decode cX1_tableWords 35 = .ok (.ifCond .eq 7, 3) := by decide +kernel
theorem dX1_tableWords_38 : decode cX1_tableWords 38 = .ok (.iconst 1, 1) := by decide +kernel
theorem dX1_tableWords_39 : decode cX1_tableWords 39 = .ok (.goto 4, 3) := by decide +kernel
theorem dX1_tableWords_42 : decode cX1_tableWords 42 = .ok (.iconst 0, 1) := by decide +kernel
theorem dX1_tableWords_43 : decode cX1_tableWords 43 = .ok (.istore_n 3, 1) := by decide +kernel
theorem dX1_tableWords_44 : decode cX1_tableWords 44 = .ok (.aload_n 0, 1) := by decide +kernel
theorem dX1_tableWords_45 : decode cX1_tableWords 45 = .ok (.getfield 9, 3) := by decide +kernel
theorem dX1_tableWords_48 : decode cX1_tableWords 48 = .ok (.iload_n 1, 1) := by decide +kernel
theorem dX1_tableWords_49 : decode cX1_tableWords 49 = .ok (.iload_n 2, 1) := by decide +kernel
theorem dX1_tableWords_50 : decode cX1_tableWords 50 = .ok (.invokestatic 56, 3) := by decide +kernel
theorem dX1_tableWords_53 : decode cX1_tableWords 53 = .ok (.iload_n 3, 1) := by decide +kernel
theorem dX1_tableWords_54 : decode cX1_tableWords 54 = .ok (.ifCond .eq 14, 3) := by decide +kernel
theorem dX1_tableWords_57 : decode cX1_tableWords 57 = .ok (.aload_n 0, 1) := by decide +kernel
theorem dX1_tableWords_58 : decode cX1_tableWords 58 = .ok (.getfield 36, 3) := by decide +kernel
theorem dX1_tableWords_61 : decode cX1_tableWords 61 = .ok (.iload_n 2, 1) := by decide +kernel
theorem dX1_tableWords_62 : decode cX1_tableWords 62 = .ok (.invokevirtual 60, 3) := by decide +kernel
theorem dX1_tableWords_65 : decode cX1_tableWords 65 = .ok (.goto 5, 3) := by decide +kernel
theorem dX1_tableWords_68 : decode cX1_tableWords 68 = .ok (.bipush (-2), 2) := by decide +kernel
theorem dX1_tableWords_70 : decode cX1_tableWords 70 = .ok (.invokestatic 64, 3) := by decide +kernel
theorem dX1_tableWords_73 : decode cX1_tableWords 73 = .ok (.aload_n 0, 1) := by decide +kernel
theorem dX1_tableWords_74 : decode cX1_tableWords 74 = .ok (.getfield 15, 3) := by decide +kernel
theorem dX1_tableWords_77 : decode cX1_tableWords 77 = .ok (.iload_n 1, 1) := by decide +kernel
theorem dX1_tableWords_78 : decode cX1_tableWords 78 = .ok (.iload_n 2, 1) := by decide +kernel
theorem dX1_tableWords_79 : decode cX1_tableWords 79 = .ok (.invokestatic 56, 3) := by decide +kernel
theorem dX1_tableWords_82 : decode cX1_tableWords 82 = .ok (.iload_n 3, 1) := by decide +kernel
theorem dX1_tableWords_83 : decode cX1_tableWords 83 = .ok (.ifCond .eq 15, 3) := by decide +kernel
theorem dX1_tableWords_86 : decode cX1_tableWords 86 = .ok (.aload_n 0, 1) := by decide +kernel
theorem dX1_tableWords_87 : decode cX1_tableWords 87 = .ok (.getfield 36, 3) := by decide +kernel
theorem dX1_tableWords_90 : decode cX1_tableWords 90 = .ok (.iload_n 2, 1) := by decide +kernel
theorem dX1_tableWords_91 : decode cX1_tableWords 91 = .ok (.iload_n 1, 1) := by decide +kernel
theorem dX1_tableWords_92 : decode cX1_tableWords 92 = .ok (.invokevirtual 68, 3) := by decide +kernel
theorem dX1_tableWords_95 : decode cX1_tableWords 95 = .ok (.goto 4, 3) := by decide +kernel
theorem dX1_tableWords_98 : decode cX1_tableWords 98 = .ok (.iconst (-1), 1) := by decide +kernel
theorem dX1_tableWords_99 : decode cX1_tableWords 99 = .ok (.invokestatic 64, 3) := by decide +kernel
theorem dX1_tableWords_102 : decode cX1_tableWords 102 = .ok (.iinc 2 1, 3) := by decide +kernel
theorem dX1_tableWords_105 : decode cX1_tableWords 105 = .ok (.goto (-96), 3) := by decide +kernel
theorem dX1_tableWords_108 : decode cX1_tableWords 108 = .ok (.iinc 1 1, 3) := by decide +kernel
theorem dX1_tableWords_111 : decode cX1_tableWords 111 = .ok (.goto (-109), 3) := by decide +kernel
theorem dX1_tableWords_114 : decode cX1_tableWords 114 = .ok (.return_, 1) := by decide +kernel
theorem dX1_wordPlace_0 : decode cX1_wordPlace 0 = .ok (.iload_n 0, 1) := by decide +kernel
theorem dX1_wordPlace_1 : decode cX1_wordPlace 1 = .ok (.iconst 1, 1) := by decide +kernel
theorem dX1_wordPlace_2 : decode cX1_wordPlace 2 = .ok (.iadd, 1) := by decide +kernel
theorem dX1_wordPlace_3 : decode cX1_wordPlace 3 = .ok (.iconst 5, 1) := by decide +kernel
theorem dX1_wordPlace_4 : decode cX1_wordPlace 4 = .ok (.imul, 1) := by decide +kernel
theorem dX1_wordPlace_5 : decode cX1_wordPlace 5 = .ok (.iload_n 1, 1) := by decide +kernel
theorem dX1_wordPlace_6 : decode cX1_wordPlace 6 = .ok (.iadd, 1) := by decide +kernel
theorem dX1_wordPlace_7 : decode cX1_wordPlace 7 = .ok (.ireturn, 1) := by decide +kernel
set_option maxRecDepth 20000 in
theorem ggX1_aimAt_X1_tableWords : GoodIn wsX1_aimAt wsX1_tableWords := goodIn_r _ [10, 11, 12, 13, 14, 15, 16, 17, 18, 19, 20, 21, 22, 23, 24, 25, 26, 27, 28, 29, 30, 31, 32, 33, 34, 9, 35, 36, 37, 38, 39, 40, 41, 42, 43, 44, 45, 54, 55, 56, 57, 58, 59, 60, 61, 62, 63, 64, 65, 66, 67, 68, 69, 70, 71, 72, 73, 74, 75, 76, 77, 78, 79] (by decide +kernel) (by decide +kernel)
set_option maxRecDepth 20000 in
theorem gX1_aimAt_X1_tableWords : GoodIn wsX1_aimAt (wsV RX1 71 RX1 yX1_tableWords wsX1_tableWords) := goodIn_app (goodIn_of _ (by decide +kernel)) ggX1_aimAt_X1_tableWords
set_option maxRecDepth 20000 in
theorem ggX1_aimAt_X4_fill : GoodIn wsX1_aimAt wsX4_fill := goodIn_r _ [47] (by decide +kernel) (by decide +kernel)
set_option maxRecDepth 20000 in
theorem gX1_aimAt_X4_fill_n74 : GoodIn wsX1_aimAt (wsX4_fill) := ggX1_aimAt_X4_fill
set_option maxRecDepth 20000 in
theorem ggX1_aimAt_X1_stepsBy : GoodIn wsX1_aimAt wsX1_stepsBy := goodIn_r _ [51, 13, 14, 1, 2, 3, 4, 5, 33, 34, 9, 35, 52, 27, 53, 54, 55, 56, 57, 58, 59, 60, 61, 62, 63] (by decide +kernel) (by decide +kernel)
set_option maxRecDepth 20000 in
theorem gX1_aimAt_X1_stepsBy : GoodIn wsX1_aimAt (wsV RX1 78 RX1 yX1_stepsBy wsX1_stepsBy) := goodIn_app (goodIn_of _ (by decide +kernel)) ggX1_aimAt_X1_stepsBy
set_option maxRecDepth 20000 in
theorem ggX1_aimAt_X4_put : GoodIn wsX1_aimAt wsX4_put := goodIn_r _ [41] (by decide +kernel) (by decide +kernel)
set_option maxRecDepth 20000 in
theorem gX1_aimAt_X4_put_n64 : GoodIn wsX1_aimAt (wsX4_put) := ggX1_aimAt_X4_put
theorem dX1_aimAt_0 : decode cX1_aimAt 0 = .ok (.aload_n 0, 1) := by decide +kernel
theorem dX1_aimAt_1 : decode cX1_aimAt 1 = .ok (.invokevirtual 71, 3) := by decide +kernel
theorem dX1_aimAt_4 : decode cX1_aimAt 4 = .ok (.aload_n 0, 1) := by decide +kernel
theorem dX1_aimAt_5 : decode cX1_aimAt 5 = .ok (.getfield 18, 3) := by decide +kernel
theorem dX1_aimAt_8 : decode cX1_aimAt 8 = .ok (.sipush 1000, 3) := by decide +kernel
theorem dX1_aimAt_11 : decode cX1_aimAt 11 = .ok (.invokestatic 74, 3) := by decide +kernel
theorem dX1_aimAt_14 : decode cX1_aimAt 14 = .ok (.iconst 0, 1) := by decide +kernel
theorem dX1_aimAt_15 : decode cX1_aimAt 15 = .ok (.istore_n 2, 1) := by decide +kernel
theorem dX1_aimAt_16 : decode cX1_aimAt 16 = .ok (.iload_n 2, 1) := by decide +kernel
theorem dX1_aimAt_17 : decode cX1_aimAt 17 = .ok (.bipush 7, 2) := by decide +kernel
theorem dX1_aimAt_19 : decode cX1_aimAt 19 = .ok (.if_icmp .ge 69, 3) := by decide +kernel
theorem dX1_aimAt_22 : decode cX1_aimAt 22 = .ok (.iconst (-1), 1) := by decide +kernel
theorem dX1_aimAt_23 : decode cX1_aimAt 23 = .ok (.istore_n 3, 1) := by decide +kernel
theorem dX1_aimAt_24 : decode cX1_aimAt 24 = .ok (.iload_n 3, 1) := by decide +kernel
theorem dX1_aimAt_25 : decode cX1_aimAt 25 = .ok (.iconst 5, 1) := by decide +kernel
theorem dX1_aimAt_26 : decode cX1_aimAt 26 = .ok (.if_icmp .gt 56, 3) := by decide +kernel
theorem dX1_aimAt_29 : decode cX1_aimAt 29 = .ok (.sipush 1000, 3) := by decide +kernel
theorem dX1_aimAt_32 : decode cX1_aimAt 32 = .ok (.istore 4, 2) := by decide +kernel
theorem dX1_aimAt_34 : decode cX1_aimAt 34 = .ok (.iconst 0, 1) := by decide +kernel
theorem dX1_aimAt_35 : decode cX1_aimAt 35 = .ok (.istore 5, 2) := by decide +kernel
theorem dX1_aimAt_37 : decode cX1_aimAt 37 = .ok (.iload 5, 2) := by decide +kernel
theorem dX1_aimAt_39 : decode cX1_aimAt 39 = .ok (.iconst 5, 1) := by decide +kernel
theorem dX1_aimAt_40 : decode cX1_aimAt 40 = .ok (.if_icmp .ge 24, 3) := by decide +kernel
theorem dX1_aimAt_43 : decode cX1_aimAt 43 = .ok (.iload 4, 2) := by decide +kernel
theorem dX1_aimAt_45 : decode cX1_aimAt 45 = .ok (.aload_n 0, 1) := by decide +kernel
theorem dX1_aimAt_46 : decode cX1_aimAt 46 = .ok (.iload 5, 2) := by decide +kernel
theorem dX1_aimAt_48 : decode cX1_aimAt 48 = .ok (.iload_n 3, 1) := by decide +kernel
theorem dX1_aimAt_49 : decode cX1_aimAt 49 = .ok (.iload_n 1, 1) := by decide +kernel
theorem dX1_aimAt_50 : decode cX1_aimAt 50 = .ok (.invokevirtual 78, 3) := by decide +kernel
theorem dX1_aimAt_53 : decode cX1_aimAt 53 = .ok (.invokestatic 82, 3) := by decide +kernel
theorem dX1_aimAt_56 : decode cX1_aimAt 56 = .ok (.istore 4, 2) := by decide +kernel
theorem dX1_aimAt_58 : decode cX1_aimAt 58 = .ok (.iinc 5 1, 3) := by decide +kernel
theorem dX1_aimAt_61 : decode cX1_aimAt 61 = .ok (.goto (-24), 3) := by decide +kernel
theorem dX1_aimAt_64 : decode cX1_aimAt 64 = .ok (.aload_n 0, 1) := by decide +kernel
theorem dX1_aimAt_65 : decode cX1_aimAt 65 = .ok (.getfield 18, 3) := by decide +kernel
theorem dX1_aimAt_68 : decode cX1_aimAt 68 = .ok (.iload_n 3, 1) := by decide +kernel
theorem dX1_aimAt_69 : decode cX1_aimAt 69 = .ok (.iconst 1, 1) := by decide +kernel
theorem dX1_aimAt_70 : decode cX1_aimAt 70 = .ok (.iadd, 1) := by decide +kernel
theorem dX1_aimAt_71 : decode cX1_aimAt 71 = .ok (.iload 4, 2) := by decide +kernel
theorem dX1_aimAt_73 : decode cX1_aimAt 73 = .ok (.invokestatic 64, 3) := by decide +kernel
theorem dX1_aimAt_76 : decode cX1_aimAt 76 = .ok (.iinc 3 1, 3) := by decide +kernel
theorem dX1_aimAt_79 : decode cX1_aimAt 79 = .ok (.goto (-55), 3) := by decide +kernel
theorem dX1_aimAt_82 : decode cX1_aimAt 82 = .ok (.iinc 2 1, 3) := by decide +kernel
theorem dX1_aimAt_85 : decode cX1_aimAt 85 = .ok (.goto (-69), 3) := by decide +kernel
theorem dX1_aimAt_88 : decode cX1_aimAt 88 = .ok (.return_, 1) := by decide +kernel
set_option maxRecDepth 20000 in
theorem ggX1_fewestWords_X4_at : GoodIn wsX1_fewestWords wsX4_at := goodIn_r _ [5] (by decide +kernel) (by decide +kernel)
set_option maxRecDepth 20000 in
theorem gX1_fewestWords_X4_at_n93 : GoodIn wsX1_fewestWords (wsX4_at) := ggX1_fewestWords_X4_at
theorem dX1_fewestWords_0 : decode cX1_fewestWords 0 = .ok (.aload_n 0, 1) := by decide +kernel
theorem dX1_fewestWords_1 : decode cX1_fewestWords 1 = .ok (.getfield 40, 3) := by decide +kernel
theorem dX1_fewestWords_4 : decode cX1_fewestWords 4 = .ok (.getfield 87, 3) := by decide +kernel
theorem dX1_fewestWords_7 : decode cX1_fewestWords 7 = .ok (.iload_n 1, 1) := by decide +kernel
theorem dX1_fewestWords_8 : decode cX1_fewestWords 8 = .ok (.if_icmp .ne 5, 3) := by decide +kernel
theorem dX1_fewestWords_11 : decode cX1_fewestWords 11 = .ok (.iconst 0, 1) := by decide +kernel
theorem dX1_fewestWords_12 : decode cX1_fewestWords 12 = .ok (.ireturn, 1) := by decide +kernel
theorem dX1_fewestWords_13 : decode cX1_fewestWords 13 = .ok (.aload_n 0, 1) := by decide +kernel
theorem dX1_fewestWords_14 : decode cX1_fewestWords 14 = .ok (.getfield 18, 3) := by decide +kernel
theorem dX1_fewestWords_17 : decode cX1_fewestWords 17 = .ok (.aload_n 0, 1) := by decide +kernel
theorem dX1_fewestWords_18 : decode cX1_fewestWords 18 = .ok (.getfield 40, 3) := by decide +kernel
theorem dX1_fewestWords_21 : decode cX1_fewestWords 21 = .ok (.getfield 90, 3) := by decide +kernel
theorem dX1_fewestWords_24 : decode cX1_fewestWords 24 = .ok (.iconst 1, 1) := by decide +kernel
theorem dX1_fewestWords_25 : decode cX1_fewestWords 25 = .ok (.iadd, 1) := by decide +kernel
theorem dX1_fewestWords_26 : decode cX1_fewestWords 26 = .ok (.invokestatic 93, 3) := by decide +kernel
theorem dX1_fewestWords_29 : decode cX1_fewestWords 29 = .ok (.istore_n 2, 1) := by decide +kernel
theorem dX1_fewestWords_30 : decode cX1_fewestWords 30 = .ok (.iload_n 2, 1) := by decide +kernel
theorem dX1_fewestWords_31 : decode cX1_fewestWords 31 = .ok (.sipush 1000, 3) := by decide +kernel
theorem dX1_fewestWords_34 : decode cX1_fewestWords 34 = .ok (.if_icmp .ge 7, 3) := by decide +kernel
theorem dX1_fewestWords_37 : decode cX1_fewestWords 37 = .ok (.iload_n 2, 1) := by decide +kernel
theorem dX1_fewestWords_38 : decode cX1_fewestWords 38 = .ok (.goto 4, 3) := by decide +kernel
theorem dX1_fewestWords_41 : decode cX1_fewestWords 41 = .ok (.iconst (-1), 1) := by decide +kernel
theorem dX1_fewestWords_42 : decode cX1_fewestWords 42 = .ok (.ireturn, 1) := by decide +kernel
set_option maxRecDepth 20000 in
theorem ggX1_firstSpeaker_X1_fewestWords : GoodIn wsX1_firstSpeaker wsX1_fewestWords := goodIn_r _ [6, 1, 7, 8, 9, 10, 24, 25, 26, 27, 28, 29, 30, 31, 32, 33, 34, 35, 36, 37, 38, 39, 40, 41, 42, 43, 44, 45] (by decide +kernel) (by decide +kernel)
set_option maxRecDepth 20000 in
theorem gX1_firstSpeaker_X1_fewestWords : GoodIn wsX1_firstSpeaker (wsV RX1 97 RX1 yX1_fewestWords wsX1_fewestWords) := goodIn_app (goodIn_of _ (by decide +kernel)) ggX1_firstSpeaker_X1_fewestWords
set_option maxRecDepth 20000 in
theorem ggX1_firstSpeaker_X1_stepsBy : GoodIn wsX1_firstSpeaker wsX1_stepsBy := goodIn_r _ [14, 15, 16, 7, 17, 18, 19, 20, 21, 22, 5, 23, 8, 9, 10, 24, 25, 26, 27, 28, 29, 30, 31, 32, 33] (by decide +kernel) (by decide +kernel)
set_option maxRecDepth 20000 in
theorem gX1_firstSpeaker_X1_stepsBy : GoodIn wsX1_firstSpeaker (wsV RX1 78 RX1 yX1_stepsBy wsX1_stepsBy) := goodIn_app (goodIn_of _ (by decide +kernel)) ggX1_firstSpeaker_X1_stepsBy
theorem dX1_firstSpeaker_0 : decode cX1_firstSpeaker 0 = .ok (.aload_n 0, 1) := by decide +kernel
theorem dX1_firstSpeaker_1 : decode cX1_firstSpeaker 1 = .ok (.iload_n 1, 1) := by decide +kernel
theorem dX1_firstSpeaker_2 : decode cX1_firstSpeaker 2 = .ok (.invokevirtual 97, 3) := by decide +kernel
theorem dX1_firstSpeaker_5 : decode cX1_firstSpeaker 5 = .ok (.istore_n 2, 1) := by decide +kernel
theorem dX1_firstSpeaker_6 : decode cX1_firstSpeaker 6 = .ok (.iconst 0, 1) := by decide +kernel
theorem dX1_firstSpeaker_7 : decode cX1_firstSpeaker 7 = .ok (.istore_n 3, 1) := by decide +kernel
theorem dX1_firstSpeaker_8 : decode cX1_firstSpeaker 8 = .ok (.iload_n 3, 1) := by decide +kernel
theorem dX1_firstSpeaker_9 : decode cX1_firstSpeaker 9 = .ok (.iconst 5, 1) := by decide +kernel
theorem dX1_firstSpeaker_10 : decode cX1_firstSpeaker 10 = .ok (.if_icmp .ge 28, 3) := by decide +kernel
theorem dX1_firstSpeaker_13 : decode cX1_firstSpeaker 13 = .ok (.aload_n 0, 1) := by decide +kernel
theorem dX1_firstSpeaker_14 : decode cX1_firstSpeaker 14 = .ok (.iload_n 3, 1) := by decide +kernel
theorem dX1_firstSpeaker_15 : decode cX1_firstSpeaker 15 = .ok (.aload_n 0, 1) := by decide +kernel
theorem dX1_firstSpeaker_16 : decode cX1_firstSpeaker 16 = .ok (.getfield 40, 3) := by decide +kernel
theorem dX1_firstSpeaker_19 : decode cX1_firstSpeaker 19 = .ok (.getfield 90, 3) := by decide +kernel
theorem dX1_firstSpeaker_22 : decode cX1_firstSpeaker 22 = .ok (.iload_n 1, 1) := by decide +kernel
theorem dX1_firstSpeaker_23 : decode cX1_firstSpeaker 23 = .ok (.invokevirtual 78, 3) := by decide +kernel
theorem dX1_firstSpeaker_26 : decode cX1_firstSpeaker 26 = .ok (.iload_n 2, 1) := by decide +kernel
theorem dX1_firstSpeaker_27 : decode cX1_firstSpeaker 27 = .ok (.if_icmp .ne 5, 3) := by decide +kernel
theorem dX1_firstSpeaker_30 : decode cX1_firstSpeaker 30 = .ok (.iload_n 3, 1) := by decide +kernel
theorem dX1_firstSpeaker_31 : decode cX1_firstSpeaker 31 = .ok (.ireturn, 1) := by decide +kernel
theorem dX1_firstSpeaker_32 : decode cX1_firstSpeaker 32 = .ok (.iinc 3 1, 3) := by decide +kernel
theorem dX1_firstSpeaker_35 : decode cX1_firstSpeaker 35 = .ok (.goto (-27), 3) := by decide +kernel
theorem dX1_firstSpeaker_38 : decode cX1_firstSpeaker 38 = .ok (.iconst (-1), 1) := by decide +kernel
theorem dX1_firstSpeaker_39 : decode cX1_firstSpeaker 39 = .ok (.ireturn, 1) := by decide +kernel
set_option maxRecDepth 20000 in
theorem ggX1_stepsBy_X1_wordPlace : GoodIn wsX1_stepsBy wsX1_wordPlace := goodIn_r _ [11] (by decide +kernel) (by decide +kernel)
set_option maxRecDepth 20000 in
theorem gX1_stepsBy_X1_wordPlace : GoodIn wsX1_stepsBy (va_wsS RX1 56 yX1_wordPlace wsX1_wordPlace) := goodIn_app (goodIn_of _ (by decide +kernel)) ggX1_stepsBy_X1_wordPlace
set_option maxRecDepth 20000 in
theorem ggX1_stepsBy_X4_at : GoodIn wsX1_stepsBy wsX4_at := goodIn_r _ [14] (by decide +kernel) (by decide +kernel)
set_option maxRecDepth 20000 in
theorem gX1_stepsBy_X4_at_n93 : GoodIn wsX1_stepsBy (wsX4_at) := ggX1_stepsBy_X4_at
theorem dX1_stepsBy_0 : decode cX1_stepsBy 0 = .ok (.iload_n 2, 1) := by decide +kernel
theorem dX1_stepsBy_1 : decode cX1_stepsBy 1 = .ok (.iload_n 1, 1) := by decide +kernel
theorem dX1_stepsBy_2 : decode cX1_stepsBy 2 = .ok (.invokestatic 56, 3) := by decide +kernel
theorem dX1_stepsBy_5 : decode cX1_stepsBy 5 = .ok (.istore 4, 2) := by decide +kernel
theorem dX1_stepsBy_7 : decode cX1_stepsBy 7 = .ok (.aload_n 0, 1) := by decide +kernel
theorem dX1_stepsBy_8 : decode cX1_stepsBy 8 = .ok (.getfield 9, 3) := by decide +kernel
theorem dX1_stepsBy_11 : decode cX1_stepsBy 11 = .ok (.iload 4, 2) := by decide +kernel
theorem dX1_stepsBy_13 : decode cX1_stepsBy 13 = .ok (.invokestatic 93, 3) := by decide +kernel
theorem dX1_stepsBy_16 : decode cX1_stepsBy 16 = .ok (.bipush (-2), 2) := by decide +kernel
theorem dX1_stepsBy_18 : decode cX1_stepsBy 18 = .ok (.if_icmp .ne 7, 3) := by decide +kernel
theorem dX1_stepsBy_21 : decode cX1_stepsBy 21 = .ok (.sipush 1000, 3) := by decide +kernel
theorem dX1_stepsBy_24 : decode cX1_stepsBy 24 = .ok (.ireturn, 1) := by decide +kernel
theorem dX1_stepsBy_25 : decode cX1_stepsBy 25 = .ok (.aload_n 0, 1) := by decide +kernel
theorem dX1_stepsBy_26 : decode cX1_stepsBy 26 = .ok (.getfield 15, 3) := by decide +kernel
theorem dX1_stepsBy_29 : decode cX1_stepsBy 29 = .ok (.iload 4, 2) := by decide +kernel
theorem dX1_stepsBy_31 : decode cX1_stepsBy 31 = .ok (.invokestatic 93, 3) := by decide +kernel
theorem dX1_stepsBy_34 : decode cX1_stepsBy 34 = .ok (.iload_n 3, 1) := by decide +kernel
theorem dX1_stepsBy_35 : decode cX1_stepsBy 35 = .ok (.if_icmp .ne 5, 3) := by decide +kernel
theorem dX1_stepsBy_38 : decode cX1_stepsBy 38 = .ok (.iconst 1, 1) := by decide +kernel
theorem dX1_stepsBy_39 : decode cX1_stepsBy 39 = .ok (.ireturn, 1) := by decide +kernel
theorem dX1_stepsBy_40 : decode cX1_stepsBy 40 = .ok (.sipush 1000, 3) := by decide +kernel
theorem dX1_stepsBy_43 : decode cX1_stepsBy 43 = .ok (.iconst 1, 1) := by decide +kernel
theorem dX1_stepsBy_44 : decode cX1_stepsBy 44 = .ok (.aload_n 0, 1) := by decide +kernel
theorem dX1_stepsBy_45 : decode cX1_stepsBy 45 = .ok (.getfield 18, 3) := by decide +kernel
theorem dX1_stepsBy_48 : decode cX1_stepsBy 48 = .ok (.aload_n 0, 1) := by decide +kernel
theorem dX1_stepsBy_49 : decode cX1_stepsBy 49 = .ok (.getfield 9, 3) := by decide +kernel
theorem dX1_stepsBy_52 : decode cX1_stepsBy 52 = .ok (.iload 4, 2) := by decide +kernel
theorem dX1_stepsBy_54 : decode cX1_stepsBy 54 = .ok (.invokestatic 93, 3) := by decide +kernel
theorem dX1_stepsBy_57 : decode cX1_stepsBy 57 = .ok (.iconst 1, 1) := by decide +kernel
theorem dX1_stepsBy_58 : decode cX1_stepsBy 58 = .ok (.iadd, 1) := by decide +kernel
theorem dX1_stepsBy_59 : decode cX1_stepsBy 59 = .ok (.invokestatic 93, 3) := by decide +kernel
theorem dX1_stepsBy_62 : decode cX1_stepsBy 62 = .ok (.iadd, 1) := by decide +kernel
theorem dX1_stepsBy_63 : decode cX1_stepsBy 63 = .ok (.invokestatic 82, 3) := by decide +kernel
theorem dX1_stepsBy_66 : decode cX1_stepsBy 66 = .ok (.ireturn, 1) := by decide +kernel
set_option maxRecDepth 20000 in
theorem ggX1_weighReplies_X1_tableWords : GoodIn wsX1_weighReplies wsX1_tableWords := goodIn_r _ [6, 7, 8, 9, 10, 11, 12, 13, 14, 15, 16, 17, 18, 19, 20, 21, 22, 23, 24, 25, 26, 27, 28, 29, 30, 5, 31, 32, 33, 34, 35, 36, 37, 38, 39, 40, 41, 86, 87, 88, 89, 90, 91, 92, 93, 94, 95, 96, 97, 98, 99, 100, 101, 102, 103, 104, 105, 106, 107, 108, 109, 110, 111] (by decide +kernel) (by decide +kernel)
set_option maxRecDepth 20000 in
theorem gX1_weighReplies_X1_tableWords : GoodIn wsX1_weighReplies (wsV RX1 71 RX1 yX1_tableWords wsX1_tableWords) := goodIn_app (goodIn_of _ (by decide +kernel)) ggX1_weighReplies_X1_tableWords
set_option maxRecDepth 20000 in
theorem ggX1_weighReplies_X1_worthPlace : GoodIn wsX1_weighReplies wsX1_worthPlace := goodIn_r _ [44] (by decide +kernel) (by decide +kernel)
set_option maxRecDepth 20000 in
theorem gX1_weighReplies_X1_worthPlace : GoodIn wsX1_weighReplies (va_wsS RX1 100 yX1_worthPlace wsX1_worthPlace) := goodIn_app (goodIn_of _ (by decide +kernel)) ggX1_weighReplies_X1_worthPlace
set_option maxRecDepth 20000 in
theorem ggX1_weighReplies_X1_worthOfEnd : GoodIn wsX1_weighReplies wsX1_worthOfEnd := goodIn_r _ [48, 7, 49, 50, 51, 14, 52, 20, 53, 86, 87, 88, 89, 90, 91, 92, 93, 94, 95, 108, 109, 110, 111] (by decide +kernel) (by decide +kernel)
set_option maxRecDepth 20000 in
theorem gX1_weighReplies_X1_worthOfEnd : GoodIn wsX1_weighReplies (wsV RX1 103 RX1 yX1_worthOfEnd wsX1_worthOfEnd) := goodIn_app (goodIn_of _ (by decide +kernel)) ggX1_weighReplies_X1_worthOfEnd
set_option maxRecDepth 20000 in
theorem ggX1_weighReplies_X4_put : GoodIn wsX1_weighReplies wsX4_put := goodIn_r _ [37] (by decide +kernel) (by decide +kernel)
set_option maxRecDepth 20000 in
theorem gX1_weighReplies_X4_put_n64 : GoodIn wsX1_weighReplies (wsX4_put) := ggX1_weighReplies_X4_put
set_option maxRecDepth 20000 in
theorem ggX1_weighReplies_X1_weighBreath : GoodIn wsX1_weighReplies wsX1_weighBreath := goodIn_r _ [57, 58, 1, 59, 60, 61, 5, 62, 63, 64, 65, 66, 7, 9, 49, 50, 51, 14, 52, 20, 53, 29, 30, 31, 67, 23, 68, 69, 70, 71, 72, 10, 42, 43, 44, 73, 74, 75, 76, 77, 78, 79, 80, 81, 82, 36, 37, 83, 84, 85, 86, 87, 88, 89, 90, 91, 92, 93, 94, 95, 108, 109, 110, 111] (by decide +kernel) (by decide +kernel)
set_option maxRecDepth 20000 in
theorem gX1_weighReplies_X1_weighBreath : GoodIn wsX1_weighReplies (wsV RX1 106 RX1 yX1_weighBreath wsX1_weighBreath) := goodIn_app (goodIn_of _ (by decide +kernel)) ggX1_weighReplies_X1_weighBreath
theorem dX1_weighReplies_0 : decode cX1_weighReplies 0 = .ok (.aload_n 0, 1) := by decide +kernel
theorem dX1_weighReplies_1 : decode cX1_weighReplies 1 = .ok (.invokevirtual 71, 3) := by decide +kernel
theorem dX1_weighReplies_4 : decode cX1_weighReplies 4 = .ok (.iconst (-1), 1) := by decide +kernel
theorem dX1_weighReplies_5 : decode cX1_weighReplies 5 = .ok (.istore_n 2, 1) := by decide +kernel
theorem dX1_weighReplies_6 : decode cX1_weighReplies 6 = .ok (.iload_n 2, 1) := by decide +kernel
theorem dX1_weighReplies_7 : decode cX1_weighReplies 7 = .ok (.iconst 5, 1) := by decide +kernel
theorem dX1_weighReplies_8 : decode cX1_weighReplies 8 = .ok (.if_icmp .gt 39, 3) := by decide +kernel
theorem dX1_weighReplies_11 : decode cX1_weighReplies 11 = .ok (.iconst (-1), 1) := by decide +kernel
theorem dX1_weighReplies_12 : decode cX1_weighReplies 12 = .ok (.istore_n 3, 1) := by decide +kernel
theorem dX1_weighReplies_13 : decode cX1_weighReplies 13 = .ok (.iload_n 3, 1) := by decide +kernel
theorem dX1_weighReplies_14 : decode cX1_weighReplies 14 = .ok (.iconst 5, 1) := by decide +kernel
theorem dX1_weighReplies_15 : decode cX1_weighReplies 15 = .ok (.if_icmp .ge 26, 3) := by decide +kernel
theorem dX1_weighReplies_18 : decode cX1_weighReplies 18 = .ok (.aload_n 0, 1) := by decide +kernel
theorem dX1_weighReplies_19 : decode cX1_weighReplies 19 = .ok (.getfield 21, 3) := by decide +kernel
theorem dX1_weighReplies_22 : decode cX1_weighReplies 22 = .ok (.iload_n 2, 1) := by decide +kernel
theorem dX1_weighReplies_23 : decode cX1_weighReplies 23 = .ok (.iload_n 3, 1) := by decide +kernel
theorem dX1_weighReplies_24 : decode cX1_weighReplies 24 = .ok (.invokestatic 100, 3) := by decide +kernel
theorem dX1_weighReplies_27 : decode cX1_weighReplies 27 = .ok (.aload_n 0, 1) := by decide +kernel
theorem dX1_weighReplies_28 : decode cX1_weighReplies 28 = .ok (.iload_n 3, 1) := by decide +kernel
theorem dX1_weighReplies_29 : decode cX1_weighReplies 29 = .ok (.invokevirtual 103, 3) := by decide +kernel
theorem dX1_weighReplies_32 : decode cX1_weighReplies 32 = .ok (.invokestatic 64, 3) := by decide +kernel
theorem dX1_weighReplies_35 : decode cX1_weighReplies 35 = .ok (.iinc 3 1, 3) := by decide +kernel
theorem dX1_weighReplies_38 : decode cX1_weighReplies 38 = .ok (.goto (-25), 3) := by decide +kernel
theorem dX1_weighReplies_41 : decode cX1_weighReplies 41 = .ok (.iinc 2 1, 3) := by decide +kernel
theorem dX1_weighReplies_44 : decode cX1_weighReplies 44 = .ok (.goto (-38), 3) := by decide +kernel
theorem dX1_weighReplies_47 : decode cX1_weighReplies 47 = .ok (.iload_n 1, 1) := by decide +kernel
theorem dX1_weighReplies_48 : decode cX1_weighReplies 48 = .ok (.iconst 1, 1) := by decide +kernel
theorem dX1_weighReplies_49 : decode cX1_weighReplies 49 = .ok (.isub, 1) := by decide +kernel
theorem dX1_weighReplies_50 : decode cX1_weighReplies 50 = .ok (.istore_n 2, 1) := by decide +kernel
theorem dX1_weighReplies_51 : decode cX1_weighReplies 51 = .ok (.iload_n 2, 1) := by decide +kernel
theorem dX1_weighReplies_52 : decode cX1_weighReplies 52 = .ok (.ifCond .le 16, 3) := by decide +kernel
theorem dX1_weighReplies_55 : decode cX1_weighReplies 55 = .ok (.aload_n 0, 1) := by decide +kernel
theorem dX1_weighReplies_56 : decode cX1_weighReplies 56 = .ok (.iload_n 2, 1) := by decide +kernel
theorem dX1_weighReplies_57 : decode cX1_weighReplies 57 = .ok (.iconst 2, 1) := by decide +kernel
theorem dX1_weighReplies_58 : decode cX1_weighReplies 58 = .ok (.irem, 1) := by decide +kernel
theorem dX1_weighReplies_59 : decode cX1_weighReplies 59 = .ok (.invokevirtual 106, 3) := by decide +kernel
theorem dX1_weighReplies_62 : decode cX1_weighReplies 62 = .ok (.iinc 2 (-1), 3) := by decide +kernel
theorem dX1_weighReplies_65 : decode cX1_weighReplies 65 = .ok (.goto (-14), 3) := by decide +kernel
theorem dX1_weighReplies_68 : decode cX1_weighReplies 68 = .ok (.return_, 1) := by decide +kernel
set_option maxRecDepth 20000 in
theorem ggX1_bestWorth_X1_worthPlace : GoodIn wsX1_bestWorth wsX1_worthPlace := goodIn_r _ [6] (by decide +kernel) (by decide +kernel)
set_option maxRecDepth 20000 in
theorem gX1_bestWorth_X1_worthPlace : GoodIn wsX1_bestWorth (va_wsS RX1 100 yX1_worthPlace wsX1_worthPlace) := goodIn_app (goodIn_of _ (by decide +kernel)) ggX1_bestWorth_X1_worthPlace
set_option maxRecDepth 20000 in
theorem ggX1_bestWorth_X4_at : GoodIn wsX1_bestWorth wsX4_at := goodIn_r _ [9] (by decide +kernel) (by decide +kernel)
set_option maxRecDepth 20000 in
theorem gX1_bestWorth_X4_at_n93 : GoodIn wsX1_bestWorth (wsX4_at) := ggX1_bestWorth_X4_at
set_option maxRecDepth 20000 in
theorem ggX1_bestWorth_X1_bestByWord : GoodIn wsX1_bestWorth wsX1_bestByWord := goodIn_r _ [13, 14, 15, 16, 5, 17, 18, 19, 20, 21, 22, 23, 24, 25, 26, 27, 28, 29, 7, 8, 9, 30, 31, 32, 33, 1, 34, 3, 4, 6, 35, 36, 37, 38, 39, 40, 41, 42, 43, 44, 45, 46, 47, 48, 49, 50, 51, 52, 53, 54, 67, 68, 69, 70] (by decide +kernel) (by decide +kernel)
set_option maxRecDepth 20000 in
theorem gX1_bestWorth_X1_bestByWord : GoodIn wsX1_bestWorth (wsV RX1 110 RX1 yX1_bestByWord wsX1_bestByWord) := goodIn_app (goodIn_of _ (by decide +kernel)) ggX1_bestWorth_X1_bestByWord
set_option maxRecDepth 20000 in
theorem ggX1_bestWorth_X1_better : GoodIn wsX1_bestWorth wsX1_better := goodIn_r _ [37, 38, 39, 40, 41, 42, 43, 44] (by decide +kernel) (by decide +kernel)
set_option maxRecDepth 20000 in
theorem gX1_bestWorth_X1_better : GoodIn wsX1_bestWorth (va_wsS RX1 113 yX1_better wsX1_better) := goodIn_app (goodIn_of _ (by decide +kernel)) ggX1_bestWorth_X1_better
theorem dX1_bestWorth_0 : decode cX1_bestWorth 0 = .ok (.iconst 0, 1) := by decide +kernel
theorem dX1_bestWorth_1 : decode cX1_bestWorth 1 = .ok (.aload_n 0, 1) := by decide +kernel
theorem dX1_bestWorth_2 : decode cX1_bestWorth 2 = .ok (.getfield 21, 3) := by decide +kernel
theorem dX1_bestWorth_5 : decode cX1_bestWorth 5 = .ok (.aload_n 0, 1) := by decide +kernel
theorem dX1_bestWorth_6 : decode cX1_bestWorth 6 = .ok (.getfield 40, 3) := by decide +kernel
theorem dX1_bestWorth_9 : decode cX1_bestWorth 9 = .ok (.getfield 90, 3) := by decide +kernel
theorem dX1_bestWorth_12 : decode cX1_bestWorth 12 = .ok (.aload_n 0, 1) := by decide +kernel
theorem dX1_bestWorth_13 : decode cX1_bestWorth 13 = .ok (.getfield 40, 3) := by decide +kernel
theorem dX1_bestWorth_16 : decode cX1_bestWorth 16 = .ok (.getfield 87, 3) := by decide +kernel
theorem dX1_bestWorth_19 : decode cX1_bestWorth 19 = .ok (.invokestatic 100, 3) := by decide +kernel
theorem dX1_bestWorth_22 : decode cX1_bestWorth 22 = .ok (.invokestatic 93, 3) := by decide +kernel
theorem dX1_bestWorth_25 : decode cX1_bestWorth 25 = .ok (.aload_n 0, 1) := by decide +kernel
theorem dX1_bestWorth_26 : decode cX1_bestWorth 26 = .ok (.iconst 0, 1) := by decide +kernel
theorem dX1_bestWorth_27 : decode cX1_bestWorth 27 = .ok (.aload_n 0, 1) := by decide +kernel
theorem dX1_bestWorth_28 : decode cX1_bestWorth 28 = .ok (.getfield 40, 3) := by decide +kernel
theorem dX1_bestWorth_31 : decode cX1_bestWorth 31 = .ok (.getfield 90, 3) := by decide +kernel
theorem dX1_bestWorth_34 : decode cX1_bestWorth 34 = .ok (.invokevirtual 110, 3) := by decide +kernel
theorem dX1_bestWorth_37 : decode cX1_bestWorth 37 = .ok (.invokestatic 113, 3) := by decide +kernel
theorem dX1_bestWorth_40 : decode cX1_bestWorth 40 = .ok (.ireturn, 1) := by decide +kernel
set_option maxRecDepth 20000 in
theorem ggX1_bestOpening_X1_bestWorth : GoodIn wsX1_bestOpening wsX1_bestWorth := goodIn_r _ [7, 1, 2, 8, 9, 6, 10, 11, 12, 13, 14, 15, 16, 17, 18, 19, 20, 21, 22, 23, 24, 25, 26, 27, 28, 29, 30, 31, 32, 33, 34, 35, 36, 37, 38, 39, 40, 41, 42, 43, 44, 45, 46, 47, 48, 49, 50, 51, 52, 53, 54, 55, 56, 57, 58, 59, 60, 61, 62, 63, 64, 65, 66, 67, 68, 69, 70, 71, 72, 73, 74] (by decide +kernel) (by decide +kernel)
set_option maxRecDepth 20000 in
theorem gX1_bestOpening_X1_bestWorth : GoodIn wsX1_bestOpening (wsV RX1 116 RX1 yX1_bestWorth wsX1_bestWorth) := goodIn_app (goodIn_of _ (by decide +kernel)) ggX1_bestOpening_X1_bestWorth
set_option maxRecDepth 20000 in
theorem ggX1_bestOpening_X1_worthPlace : GoodIn wsX1_bestOpening wsX1_worthPlace := goodIn_r _ [10] (by decide +kernel) (by decide +kernel)
set_option maxRecDepth 20000 in
theorem gX1_bestOpening_X1_worthPlace : GoodIn wsX1_bestOpening (va_wsS RX1 100 yX1_worthPlace wsX1_worthPlace) := goodIn_app (goodIn_of _ (by decide +kernel)) ggX1_bestOpening_X1_worthPlace
set_option maxRecDepth 20000 in
theorem ggX1_bestOpening_X4_at : GoodIn wsX1_bestOpening wsX4_at := goodIn_r _ [13] (by decide +kernel) (by decide +kernel)
set_option maxRecDepth 20000 in
theorem gX1_bestOpening_X4_at_n93 : GoodIn wsX1_bestOpening (wsX4_at) := ggX1_bestOpening_X4_at
set_option maxRecDepth 20000 in
theorem ggX1_bestOpening_X1_isTurnOf : GoodIn wsX1_bestOpening wsX1_isTurnOf := goodIn_r _ [21, 22, 23, 24, 25, 26, 27, 28, 29, 30, 31, 32, 6, 33, 11, 12, 13, 49, 50, 51, 52, 53, 54, 55, 56, 57, 58, 71, 72, 73, 74] (by decide +kernel) (by decide +kernel)
set_option maxRecDepth 20000 in
theorem gX1_bestOpening_X1_isTurnOf : GoodIn wsX1_bestOpening (wsV RX1 120 RX1 yX1_isTurnOf wsX1_isTurnOf) := goodIn_app (goodIn_of _ (by decide +kernel)) ggX1_bestOpening_X1_isTurnOf
set_option maxRecDepth 20000 in
theorem ggX1_bestOpening_X1_worthBehind : GoodIn wsX1_bestOpening wsX1_worthBehind := goodIn_r _ [37, 1, 23, 38, 31, 32, 6, 33, 11, 12, 13, 8, 9, 10, 49, 50, 51, 52, 53, 54, 55, 56, 57, 58] (by decide +kernel) (by decide +kernel)
set_option maxRecDepth 20000 in
theorem gX1_bestOpening_X1_worthBehind : GoodIn wsX1_bestOpening (wsV RX1 123 RX1 yX1_worthBehind wsX1_worthBehind) := goodIn_app (goodIn_of _ (by decide +kernel)) ggX1_bestOpening_X1_worthBehind
theorem dX1_bestOpening_0 : decode cX1_bestOpening 0 = .ok (.aload_n 0, 1) := by decide +kernel
theorem dX1_bestOpening_1 : decode cX1_bestOpening 1 = .ok (.invokevirtual 116, 3) := by decide +kernel
theorem dX1_bestOpening_4 : decode cX1_bestOpening 4 = .ok (.istore_n 1, 1) := by decide +kernel
theorem dX1_bestOpening_5 : decode cX1_bestOpening 5 = .ok (.aload_n 0, 1) := by decide +kernel
theorem dX1_bestOpening_6 : decode cX1_bestOpening 6 = .ok (.getfield 21, 3) := by decide +kernel
theorem dX1_bestOpening_9 : decode cX1_bestOpening 9 = .ok (.aload_n 0, 1) := by decide +kernel
theorem dX1_bestOpening_10 : decode cX1_bestOpening 10 = .ok (.getfield 40, 3) := by decide +kernel
theorem dX1_bestOpening_13 : decode cX1_bestOpening 13 = .ok (.getfield 90, 3) := by decide +kernel
theorem dX1_bestOpening_16 : decode cX1_bestOpening 16 = .ok (.aload_n 0, 1) := by decide +kernel
theorem dX1_bestOpening_17 : decode cX1_bestOpening 17 = .ok (.getfield 40, 3) := by decide +kernel
theorem dX1_bestOpening_20 : decode cX1_bestOpening 20 = .ok (.getfield 87, 3) := by decide +kernel
theorem dX1_bestOpening_23 : decode cX1_bestOpening 23 = .ok (.invokestatic 100, 3) := by decide +kernel
theorem dX1_bestOpening_26 : decode cX1_bestOpening 26 = .ok (.invokestatic 93, 3) := by decide +kernel
theorem dX1_bestOpening_29 : decode cX1_bestOpening 29 = .ok (.iload_n 1, 1) := by decide +kernel
theorem dX1_bestOpening_30 : decode cX1_bestOpening 30 = .ok (.if_icmp .ne 5, 3) := by decide +kernel
theorem dX1_bestOpening_33 : decode cX1_bestOpening 33 = .ok (.iconst (-1), 1) := by decide +kernel
theorem dX1_bestOpening_34 : decode cX1_bestOpening 34 = .ok (.ireturn, 1) := by decide +kernel
theorem dX1_bestOpening_35 : decode cX1_bestOpening 35 = .ok (.iconst 0, 1) := by decide +kernel
theorem dX1_bestOpening_36 : decode cX1_bestOpening 36 = .ok (.istore_n 2, 1) := by decide +kernel
theorem dX1_bestOpening_37 : decode cX1_bestOpening 37 = .ok (.iload_n 2, 1) := by decide +kernel
theorem dX1_bestOpening_38 : decode cX1_bestOpening 38 = .ok (.iconst 5, 1) := by decide +kernel
theorem dX1_bestOpening_39 : decode cX1_bestOpening 39 = .ok (.if_icmp .ge 43, 3) := by decide +kernel
theorem dX1_bestOpening_42 : decode cX1_bestOpening 42 = .ok (.aload_n 0, 1) := by decide +kernel
theorem dX1_bestOpening_43 : decode cX1_bestOpening 43 = .ok (.iconst 0, 1) := by decide +kernel
theorem dX1_bestOpening_44 : decode cX1_bestOpening 44 = .ok (.iload_n 2, 1) := by decide +kernel
theorem dX1_bestOpening_45 : decode cX1_bestOpening 45 = .ok (.aload_n 0, 1) := by decide +kernel
theorem dX1_bestOpening_46 : decode cX1_bestOpening 46 = .ok (.getfield 40, 3) := by decide +kernel
theorem dX1_bestOpening_49 : decode cX1_bestOpening 49 = .ok (.getfield 90, 3) := by decide +kernel
theorem dX1_bestOpening_52 : decode cX1_bestOpening 52 = .ok (.invokevirtual 120, 3) := by decide +kernel
theorem dX1_bestOpening_55 : decode cX1_bestOpening 55 = .ok (.ifCond .eq 21, 3) := by decide +kernel
theorem dX1_bestOpening_58 : decode cX1_bestOpening 58 = .ok (.aload_n 0, 1) := by decide +kernel
theorem dX1_bestOpening_59 : decode cX1_bestOpening 59 = .ok (.iload_n 2, 1) := by decide +kernel
theorem dX1_bestOpening_60 : decode cX1_bestOpening 60 = .ok (.aload_n 0, 1) := by decide +kernel
theorem dX1_bestOpening_61 : decode cX1_bestOpening 61 = .ok (.getfield 40, 3) := by decide +kernel
theorem dX1_bestOpening_64 : decode cX1_bestOpening 64 = .ok (.getfield 90, 3) := by decide +kernel
theorem dX1_bestOpening_67 : decode cX1_bestOpening 67 = .ok (.invokevirtual 123, 3) := by decide +kernel
theorem dX1_bestOpening_70 : decode cX1_bestOpening 70 = .ok (.iload_n 1, 1) := by decide +kernel
theorem dX1_bestOpening_71 : decode cX1_bestOpening 71 = .ok (.if_icmp .ne 5, 3) := by decide +kernel
theorem dX1_bestOpening_74 : decode cX1_bestOpening 74 = .ok (.iload_n 2, 1) := by decide +kernel
theorem dX1_bestOpening_75 : decode cX1_bestOpening 75 = .ok (.ireturn, 1) := by decide +kernel
theorem dX1_bestOpening_76 : decode cX1_bestOpening 76 = .ok (.iinc 2 1, 3) := by decide +kernel
theorem dX1_bestOpening_79 : decode cX1_bestOpening 79 = .ok (.goto (-42), 3) := by decide +kernel
theorem dX1_bestOpening_82 : decode cX1_bestOpening 82 = .ok (.iconst (-1), 1) := by decide +kernel
theorem dX1_bestOpening_83 : decode cX1_bestOpening 83 = .ok (.ireturn, 1) := by decide +kernel
set_option maxRecDepth 20000 in
theorem ggX1_weighBreath_X1_bestByWord : GoodIn wsX1_weighBreath wsX1_bestByWord := goodIn_r _ [7, 8, 9, 10, 6, 11, 12, 13, 14, 15, 16, 17, 18, 19, 20, 21, 22, 23, 24, 25, 26, 27, 28, 29, 30, 2, 31, 32, 33, 34, 35, 36, 37, 38, 39, 40, 41, 42, 43, 44, 50, 51, 52, 53, 54, 55, 56, 57, 58, 59, 60, 61, 62, 63] (by decide +kernel) (by decide +kernel)
set_option maxRecDepth 20000 in
theorem gX1_weighBreath_X1_bestByWord : GoodIn wsX1_weighBreath (wsV RX1 110 RX1 yX1_bestByWord wsX1_bestByWord) := goodIn_app (goodIn_of _ (by decide +kernel)) ggX1_weighBreath_X1_bestByWord
set_option maxRecDepth 20000 in
theorem ggX1_weighBreath_X1_worthPlace : GoodIn wsX1_weighBreath wsX1_worthPlace := goodIn_r _ [34] (by decide +kernel) (by decide +kernel)
set_option maxRecDepth 20000 in
theorem gX1_weighBreath_X1_worthPlace : GoodIn wsX1_weighBreath (va_wsS RX1 100 yX1_worthPlace wsX1_worthPlace) := goodIn_app (goodIn_of _ (by decide +kernel)) ggX1_weighBreath_X1_worthPlace
set_option maxRecDepth 20000 in
theorem ggX1_weighBreath_X4_at : GoodIn wsX1_weighBreath wsX4_at := goodIn_r _ [26] (by decide +kernel) (by decide +kernel)
set_option maxRecDepth 20000 in
theorem gX1_weighBreath_X4_at_n93 : GoodIn wsX1_weighBreath (wsX4_at) := ggX1_weighBreath_X4_at
set_option maxRecDepth 20000 in
theorem ggX1_weighBreath_X1_better : GoodIn wsX1_weighBreath wsX1_better := goodIn_r _ [37, 38, 39, 40, 41, 42, 43, 44] (by decide +kernel) (by decide +kernel)
set_option maxRecDepth 20000 in
theorem gX1_weighBreath_X1_better : GoodIn wsX1_weighBreath (va_wsS RX1 113 yX1_better wsX1_better) := goodIn_app (goodIn_of _ (by decide +kernel)) ggX1_weighBreath_X1_better
set_option maxRecDepth 20000 in
theorem ggX1_weighBreath_X4_put : GoodIn wsX1_weighBreath wsX4_put := goodIn_r _ [46] (by decide +kernel) (by decide +kernel)
set_option maxRecDepth 20000 in
theorem gX1_weighBreath_X4_put_n64 : GoodIn wsX1_weighBreath (wsX4_put) := ggX1_weighBreath_X4_put
set_option maxRecDepth 20000 in
theorem ggX1_weighBreath_X4_copy : GoodIn wsX1_weighBreath wsX4_copy := goodIn_r _ [48, 49, 24, 25, 26] (by decide +kernel) (by decide +kernel)
set_option maxRecDepth 20000 in
theorem gX1_weighBreath_X4_copy_n126 : GoodIn wsX1_weighBreath (wsX4_copy) := ggX1_weighBreath_X4_copy
theorem dX1_weighBreath_0 : decode cX1_weighBreath 0 = .ok (.iconst (-1), 1) := by decide +kernel
theorem dX1_weighBreath_1 : decode cX1_weighBreath 1 = .ok (.istore_n 2, 1) := by decide +kernel
theorem dX1_weighBreath_2 : decode cX1_weighBreath 2 = .ok (.iload_n 2, 1) := by decide +kernel
theorem dX1_weighBreath_3 : decode cX1_weighBreath 3 = .ok (.iconst 5, 1) := by decide +kernel
theorem dX1_weighBreath_4 : decode cX1_weighBreath 4 = .ok (.if_icmp .gt 62, 3) := by decide +kernel
theorem dX1_weighBreath_7 : decode cX1_weighBreath 7 = .ok (.aload_n 0, 1) := by decide +kernel
theorem dX1_weighBreath_8 : decode cX1_weighBreath 8 = .ok (.iload_n 1, 1) := by decide +kernel
theorem dX1_weighBreath_9 : decode cX1_weighBreath 9 = .ok (.iload_n 2, 1) := by decide +kernel
theorem dX1_weighBreath_10 : decode cX1_weighBreath 10 = .ok (.invokevirtual 110, 3) := by decide +kernel
theorem dX1_weighBreath_13 : decode cX1_weighBreath 13 = .ok (.istore_n 3, 1) := by decide +kernel
theorem dX1_weighBreath_14 : decode cX1_weighBreath 14 = .ok (.iconst (-1), 1) := by decide +kernel
theorem dX1_weighBreath_15 : decode cX1_weighBreath 15 = .ok (.istore 4, 2) := by decide +kernel
theorem dX1_weighBreath_17 : decode cX1_weighBreath 17 = .ok (.iload 4, 2) := by decide +kernel
theorem dX1_weighBreath_19 : decode cX1_weighBreath 19 = .ok (.iconst 5, 1) := by decide +kernel
theorem dX1_weighBreath_20 : decode cX1_weighBreath 20 = .ok (.if_icmp .ge 40, 3) := by decide +kernel
theorem dX1_weighBreath_23 : decode cX1_weighBreath 23 = .ok (.iload_n 2, 1) := by decide +kernel
theorem dX1_weighBreath_24 : decode cX1_weighBreath 24 = .ok (.iload 4, 2) := by decide +kernel
theorem dX1_weighBreath_26 : decode cX1_weighBreath 26 = .ok (.invokestatic 100, 3) := by decide +kernel
theorem dX1_weighBreath_29 : decode cX1_weighBreath 29 = .ok (.istore 5, 2) := by decide +kernel
theorem dX1_weighBreath_31 : decode cX1_weighBreath 31 = .ok (.aload_n 0, 1) := by decide +kernel
theorem dX1_weighBreath_32 : decode cX1_weighBreath 32 = .ok (.getfield 24, 3) := by decide +kernel
theorem dX1_weighBreath_35 : decode cX1_weighBreath 35 = .ok (.iload 5, 2) := by decide +kernel
theorem dX1_weighBreath_37 : decode cX1_weighBreath 37 = .ok (.iload_n 1, 1) := by decide +kernel
theorem dX1_weighBreath_38 : decode cX1_weighBreath 38 = .ok (.aload_n 0, 1) := by decide +kernel
theorem dX1_weighBreath_39 : decode cX1_weighBreath 39 = .ok (.getfield 21, 3) := by decide +kernel
theorem dX1_weighBreath_42 : decode cX1_weighBreath 42 = .ok (.iload 5, 2) := by decide +kernel
theorem dX1_weighBreath_44 : decode cX1_weighBreath 44 = .ok (.invokestatic 93, 3) := by decide +kernel
theorem dX1_weighBreath_47 : decode cX1_weighBreath 47 = .ok (.iload_n 3, 1) := by decide +kernel
theorem dX1_weighBreath_48 : decode cX1_weighBreath 48 = .ok (.invokestatic 113, 3) := by decide +kernel
theorem dX1_weighBreath_51 : decode cX1_weighBreath 51 = .ok (.invokestatic 64, 3) := by decide +kernel
theorem dX1_weighBreath_54 : decode cX1_weighBreath 54 = .ok (.iinc 4 1, 3) := by decide +kernel
theorem dX1_weighBreath_57 : decode cX1_weighBreath 57 = .ok (.goto (-40), 3) := by decide +kernel
theorem dX1_weighBreath_60 : decode cX1_weighBreath 60 = .ok (.iinc 2 1, 3) := by decide +kernel
theorem dX1_weighBreath_63 : decode cX1_weighBreath 63 = .ok (.goto (-61), 3) := by decide +kernel
theorem dX1_weighBreath_66 : decode cX1_weighBreath 66 = .ok (.aload_n 0, 1) := by decide +kernel
theorem dX1_weighBreath_67 : decode cX1_weighBreath 67 = .ok (.getfield 24, 3) := by decide +kernel
theorem dX1_weighBreath_70 : decode cX1_weighBreath 70 = .ok (.aload_n 0, 1) := by decide +kernel
theorem dX1_weighBreath_71 : decode cX1_weighBreath 71 = .ok (.getfield 21, 3) := by decide +kernel
theorem dX1_weighBreath_74 : decode cX1_weighBreath 74 = .ok (.invokestatic 126, 3) := by decide +kernel
theorem dX1_weighBreath_77 : decode cX1_weighBreath 77 = .ok (.return_, 1) := by decide +kernel
set_option maxRecDepth 20000 in
theorem ggX1_bestByWord_X1_isTurnOf : GoodIn wsX1_bestByWord wsX1_isTurnOf := goodIn_r _ [5, 6, 7, 8, 9, 10, 11, 12, 13, 14, 15, 16, 4, 17, 18, 19, 20, 40, 41, 42, 43, 44, 45, 46, 47, 48, 49, 50, 51, 52, 53] (by decide +kernel) (by decide +kernel)
set_option maxRecDepth 20000 in
theorem gX1_bestByWord_X1_isTurnOf : GoodIn wsX1_bestByWord (wsV RX1 120 RX1 yX1_isTurnOf wsX1_isTurnOf) := goodIn_app (goodIn_of _ (by decide +kernel)) ggX1_bestByWord_X1_isTurnOf
set_option maxRecDepth 20000 in
theorem ggX1_bestByWord_X1_worthBehind : GoodIn wsX1_bestByWord wsX1_worthBehind := goodIn_r _ [24, 25, 7, 26, 15, 16, 4, 17, 18, 19, 20, 27, 28, 29, 40, 41, 42, 43, 44, 45, 46, 47, 48, 49] (by decide +kernel) (by decide +kernel)
set_option maxRecDepth 20000 in
theorem gX1_bestByWord_X1_worthBehind : GoodIn wsX1_bestByWord (wsV RX1 123 RX1 yX1_worthBehind wsX1_worthBehind) := goodIn_app (goodIn_of _ (by decide +kernel)) ggX1_bestByWord_X1_worthBehind
set_option maxRecDepth 20000 in
theorem ggX1_bestByWord_X1_better : GoodIn wsX1_bestByWord wsX1_better := goodIn_r _ [32, 33, 34, 35, 36, 37, 38, 39] (by decide +kernel) (by decide +kernel)
set_option maxRecDepth 20000 in
theorem gX1_bestByWord_X1_better : GoodIn wsX1_bestByWord (va_wsS RX1 113 yX1_better wsX1_better) := goodIn_app (goodIn_of _ (by decide +kernel)) ggX1_bestByWord_X1_better
theorem dX1_bestByWord_0 : decode cX1_bestByWord 0 = .ok (.iload_n 1, 1) := by decide +kernel
theorem dX1_bestByWord_1 : decode cX1_bestByWord 1 = .ok (.ifCond .ne 9, 3) := by decide +kernel
theorem dX1_bestByWord_4 : decode cX1_bestByWord 4 = .ok (.sipush (-1000), 3) := by decide +kernel
theorem dX1_bestByWord_7 : decode cX1_bestByWord 7 = .ok (.goto 6, 3) := by decide +kernel
theorem dX1_bestByWord_10 : decode cX1_bestByWord 10 = .ok (.sipush 1000, 3) := by decide +kernel
theorem dX1_bestByWord_13 : decode cX1_bestByWord 13 = .ok (.istore_n 3, 1) := by decide +kernel
theorem dX1_bestByWord_14 : decode cX1_bestByWord 14 = .ok (.iconst 0, 1) := by decide +kernel
theorem dX1_bestByWord_15 : decode cX1_bestByWord 15 = .ok (.istore 4, 2) := by decide +kernel
theorem dX1_bestByWord_17 : decode cX1_bestByWord 17 = .ok (.iload 4, 2) := by decide +kernel
theorem dX1_bestByWord_19 : decode cX1_bestByWord 19 = .ok (.iconst 5, 1) := by decide +kernel
theorem dX1_bestByWord_20 : decode cX1_bestByWord 20 = .ok (.if_icmp .ge 33, 3) := by decide +kernel
theorem dX1_bestByWord_23 : decode cX1_bestByWord 23 = .ok (.aload_n 0, 1) := by decide +kernel
theorem dX1_bestByWord_24 : decode cX1_bestByWord 24 = .ok (.iload_n 1, 1) := by decide +kernel
theorem dX1_bestByWord_25 : decode cX1_bestByWord 25 = .ok (.iload 4, 2) := by decide +kernel
theorem dX1_bestByWord_27 : decode cX1_bestByWord 27 = .ok (.iload_n 2, 1) := by decide +kernel
theorem dX1_bestByWord_28 : decode cX1_bestByWord 28 = .ok (.invokevirtual 120, 3) := by decide +kernel
theorem dX1_bestByWord_31 : decode cX1_bestByWord 31 = .ok (.ifCond .eq 16, 3) := by decide +kernel
theorem dX1_bestByWord_34 : decode cX1_bestByWord 34 = .ok (.iload_n 1, 1) := by decide +kernel
theorem dX1_bestByWord_35 : decode cX1_bestByWord 35 = .ok (.iload_n 3, 1) := by decide +kernel
theorem dX1_bestByWord_36 : decode cX1_bestByWord 36 = .ok (.aload_n 0, 1) := by decide +kernel
theorem dX1_bestByWord_37 : decode cX1_bestByWord 37 = .ok (.iload 4, 2) := by decide +kernel
theorem dX1_bestByWord_39 : decode cX1_bestByWord 39 = .ok (.iload_n 2, 1) := by decide +kernel
theorem dX1_bestByWord_40 : decode cX1_bestByWord 40 = .ok (.invokevirtual 123, 3) := by decide +kernel
theorem dX1_bestByWord_43 : decode cX1_bestByWord 43 = .ok (.invokestatic 113, 3) := by decide +kernel
theorem dX1_bestByWord_46 : decode cX1_bestByWord 46 = .ok (.istore_n 3, 1) := by decide +kernel
theorem dX1_bestByWord_47 : decode cX1_bestByWord 47 = .ok (.iinc 4 1, 3) := by decide +kernel
theorem dX1_bestByWord_50 : decode cX1_bestByWord 50 = .ok (.goto (-33), 3) := by decide +kernel
theorem dX1_bestByWord_53 : decode cX1_bestByWord 53 = .ok (.iload_n 3, 1) := by decide +kernel
theorem dX1_bestByWord_54 : decode cX1_bestByWord 54 = .ok (.ireturn, 1) := by decide +kernel
theorem dX1_better_0 : decode cX1_better 0 = .ok (.iload_n 0, 1) := by decide +kernel
theorem dX1_better_1 : decode cX1_better 1 = .ok (.ifCond .ne 11, 3) := by decide +kernel
theorem dX1_better_4 : decode cX1_better 4 = .ok (.iload_n 1, 1) := by decide +kernel
theorem dX1_better_5 : decode cX1_better 5 = .ok (.iload_n 2, 1) := by decide +kernel
theorem dX1_better_6 : decode cX1_better 6 = .ok (.invokestatic 130, 3) := by decide +kernel
theorem dX1_better_9 : decode cX1_better 9 = .ok (.goto 8, 3) := by decide +kernel
theorem dX1_better_12 : decode cX1_better 12 = .ok (.iload_n 1, 1) := by decide +kernel
theorem dX1_better_13 : decode cX1_better 13 = .ok (.iload_n 2, 1) := by decide +kernel
theorem dX1_better_14 : decode cX1_better 14 = .ok (.invokestatic 82, 3) := by decide +kernel
theorem dX1_better_17 : decode cX1_better 17 = .ok (.ireturn, 1) := by decide +kernel
set_option maxRecDepth 20000 in
theorem ggX1_isTurnOf_X0_sideAt : GoodIn wsX1_isTurnOf wsX0_sideAt := goodIn_r _ [7, 8, 9, 27, 28, 29, 30] (by decide +kernel) (by decide +kernel)
set_option maxRecDepth 20000 in
theorem gX1_isTurnOf_X0_sideAt : GoodIn wsX1_isTurnOf (wsV RX1 133 RX0 yX0_sideAt wsX0_sideAt) := goodIn_app (goodIn_of _ (by decide +kernel)) ggX1_isTurnOf_X0_sideAt
set_option maxRecDepth 20000 in
theorem ggX1_isTurnOf_X1_wordPlace : GoodIn wsX1_isTurnOf wsX1_wordPlace := goodIn_r _ [13] (by decide +kernel) (by decide +kernel)
set_option maxRecDepth 20000 in
theorem gX1_isTurnOf_X1_wordPlace : GoodIn wsX1_isTurnOf (va_wsS RX1 56 yX1_wordPlace wsX1_wordPlace) := goodIn_app (goodIn_of _ (by decide +kernel)) ggX1_isTurnOf_X1_wordPlace
set_option maxRecDepth 20000 in
theorem ggX1_isTurnOf_X4_at : GoodIn wsX1_isTurnOf wsX4_at := goodIn_r _ [16] (by decide +kernel) (by decide +kernel)
set_option maxRecDepth 20000 in
theorem gX1_isTurnOf_X4_at_n93 : GoodIn wsX1_isTurnOf (wsX4_at) := ggX1_isTurnOf_X4_at
theorem dX1_isTurnOf_0 : decode cX1_isTurnOf 0 = .ok (.aload_n 0, 1) := by decide +kernel
theorem dX1_isTurnOf_1 : decode cX1_isTurnOf 1 = .ok (.getfield 36, 3) := by decide +kernel
theorem dX1_isTurnOf_4 : decode cX1_isTurnOf 4 = .ok (.iload_n 2, 1) := by decide +kernel
theorem dX1_isTurnOf_5 : decode cX1_isTurnOf 5 = .ok (.invokevirtual 133, 3) := by decide +kernel
theorem dX1_isTurnOf_8 : decode cX1_isTurnOf 8 = .ok (.iload_n 1, 1) := by decide +kernel
theorem dX1_isTurnOf_9 : decode cX1_isTurnOf 9 = .ok (.if_icmp .ne 24, 3) := by decide +kernel
theorem dX1_isTurnOf_12 : decode cX1_isTurnOf 12 = .ok (.aload_n 0, 1) := by decide +kernel
theorem dX1_isTurnOf_13 : decode cX1_isTurnOf 13 = .ok (.getfield 9, 3) := by decide +kernel
theorem dX1_isTurnOf_16 : decode cX1_isTurnOf 16 = .ok (.iload_n 3, 1) := by decide +kernel
theorem dX1_isTurnOf_17 : decode cX1_isTurnOf 17 = .ok (.iload_n 2, 1) := by decide +kernel
theorem dX1_isTurnOf_18 : decode cX1_isTurnOf 18 = .ok (.invokestatic 56, 3) := by decide +kernel
theorem dX1_isTurnOf_21 : decode cX1_isTurnOf 21 = .ok (.invokestatic 93, 3) := by decide +kernel
theorem dX1_isTurnOf_24 : decode cX1_isTurnOf 24 = .ok (.bipush (-2), 2) := by decide +kernel
theorem dX1_isTurnOf_26 : decode cX1_isTurnOf 26 = .ok (.if_icmp .eq 7, 3) := by decide +kernel
theorem dX1_isTurnOf_29 : decode cX1_isTurnOf 29 = .ok (.iconst 1, 1) := by decide +kernel
theorem dX1_isTurnOf_30 : decode cX1_isTurnOf 30 = .ok (.goto 4, 3) := by decide +kernel
theorem dX1_isTurnOf_33 : decode cX1_isTurnOf 33 = .ok (.iconst 0, 1) := by decide +kernel
theorem dX1_isTurnOf_34 : decode cX1_isTurnOf 34 = .ok (.ireturn, 1) := by decide +kernel
set_option maxRecDepth 20000 in
theorem ggX1_worthBehind_X1_wordPlace : GoodIn wsX1_worthBehind wsX1_wordPlace := goodIn_r _ [7] (by decide +kernel) (by decide +kernel)
set_option maxRecDepth 20000 in
theorem gX1_worthBehind_X1_wordPlace : GoodIn wsX1_worthBehind (va_wsS RX1 56 yX1_wordPlace wsX1_wordPlace) := goodIn_app (goodIn_of _ (by decide +kernel)) ggX1_worthBehind_X1_wordPlace
set_option maxRecDepth 20000 in
theorem ggX1_worthBehind_X4_at : GoodIn wsX1_worthBehind wsX4_at := goodIn_r _ [10] (by decide +kernel) (by decide +kernel)
set_option maxRecDepth 20000 in
theorem gX1_worthBehind_X4_at_n93 : GoodIn wsX1_worthBehind (wsX4_at) := ggX1_worthBehind_X4_at
set_option maxRecDepth 20000 in
theorem ggX1_worthBehind_X1_worthPlace : GoodIn wsX1_worthBehind wsX1_worthPlace := goodIn_r _ [13] (by decide +kernel) (by decide +kernel)
set_option maxRecDepth 20000 in
theorem gX1_worthBehind_X1_worthPlace : GoodIn wsX1_worthBehind (va_wsS RX1 100 yX1_worthPlace wsX1_worthPlace) := goodIn_app (goodIn_of _ (by decide +kernel)) ggX1_worthBehind_X1_worthPlace
theorem dX1_worthBehind_0 : decode cX1_worthBehind 0 = .ok (.iload_n 2, 1) := by decide +kernel
theorem dX1_worthBehind_1 : decode cX1_worthBehind 1 = .ok (.iload_n 1, 1) := by decide +kernel
theorem dX1_worthBehind_2 : decode cX1_worthBehind 2 = .ok (.invokestatic 56, 3) := by decide +kernel
theorem dX1_worthBehind_5 : decode cX1_worthBehind 5 = .ok (.istore_n 3, 1) := by decide +kernel
theorem dX1_worthBehind_6 : decode cX1_worthBehind 6 = .ok (.aload_n 0, 1) := by decide +kernel
theorem dX1_worthBehind_7 : decode cX1_worthBehind 7 = .ok (.getfield 21, 3) := by decide +kernel
theorem dX1_worthBehind_10 : decode cX1_worthBehind 10 = .ok (.aload_n 0, 1) := by decide +kernel
theorem dX1_worthBehind_11 : decode cX1_worthBehind 11 = .ok (.getfield 9, 3) := by decide +kernel
theorem dX1_worthBehind_14 : decode cX1_worthBehind 14 = .ok (.iload_n 3, 1) := by decide +kernel
theorem dX1_worthBehind_15 : decode cX1_worthBehind 15 = .ok (.invokestatic 93, 3) := by decide +kernel
theorem dX1_worthBehind_18 : decode cX1_worthBehind 18 = .ok (.aload_n 0, 1) := by decide +kernel
theorem dX1_worthBehind_19 : decode cX1_worthBehind 19 = .ok (.getfield 15, 3) := by decide +kernel
theorem dX1_worthBehind_22 : decode cX1_worthBehind 22 = .ok (.iload_n 3, 1) := by decide +kernel
theorem dX1_worthBehind_23 : decode cX1_worthBehind 23 = .ok (.invokestatic 93, 3) := by decide +kernel
theorem dX1_worthBehind_26 : decode cX1_worthBehind 26 = .ok (.invokestatic 100, 3) := by decide +kernel
theorem dX1_worthBehind_29 : decode cX1_worthBehind 29 = .ok (.invokestatic 93, 3) := by decide +kernel
theorem dX1_worthBehind_32 : decode cX1_worthBehind 32 = .ok (.ireturn, 1) := by decide +kernel
set_option maxRecDepth 20000 in
theorem ggX1_worthOfEnd_X0_sideAt : GoodIn wsX1_worthOfEnd wsX0_sideAt := goodIn_r _ [6, 7, 8, 19, 20, 21, 22] (by decide +kernel) (by decide +kernel)
set_option maxRecDepth 20000 in
theorem gX1_worthOfEnd_X0_sideAt : GoodIn wsX1_worthOfEnd (wsV RX1 133 RX0 yX0_sideAt wsX0_sideAt) := goodIn_app (goodIn_of _ (by decide +kernel)) ggX1_worthOfEnd_X0_sideAt
theorem dX1_worthOfEnd_0 : decode cX1_worthOfEnd 0 = .ok (.aload_n 0, 1) := by decide +kernel
theorem dX1_worthOfEnd_1 : decode cX1_worthOfEnd 1 = .ok (.getfield 36, 3) := by decide +kernel
theorem dX1_worthOfEnd_4 : decode cX1_worthOfEnd 4 = .ok (.iload_n 1, 1) := by decide +kernel
theorem dX1_worthOfEnd_5 : decode cX1_worthOfEnd 5 = .ok (.invokevirtual 133, 3) := by decide +kernel
theorem dX1_worthOfEnd_8 : decode cX1_worthOfEnd 8 = .ok (.lookupswitch 32 #[(0, 28), (1, 30)], 28) := by decide +kernel
theorem dX1_worthOfEnd_36 : decode cX1_worthOfEnd 36 = .ok (.iconst 1, 1) := by decide +kernel
theorem dX1_worthOfEnd_37 : decode cX1_worthOfEnd 37 = .ok (.ireturn, 1) := by decide +kernel
theorem dX1_worthOfEnd_38 : decode cX1_worthOfEnd 38 = .ok (.iconst (-1), 1) := by decide +kernel
theorem dX1_worthOfEnd_39 : decode cX1_worthOfEnd 39 = .ok (.ireturn, 1) := by decide +kernel
theorem dX1_worthOfEnd_40 : decode cX1_worthOfEnd 40 = .ok (.iconst 0, 1) := by decide +kernel
theorem dX1_worthOfEnd_41 : decode cX1_worthOfEnd 41 = .ok (.ireturn, 1) := by decide +kernel
theorem dX1_worthPlace_0 : decode cX1_worthPlace 0 = .ok (.iload_n 0, 1) := by decide +kernel
theorem dX1_worthPlace_1 : decode cX1_worthPlace 1 = .ok (.iconst 1, 1) := by decide +kernel
theorem dX1_worthPlace_2 : decode cX1_worthPlace 2 = .ok (.iadd, 1) := by decide +kernel
theorem dX1_worthPlace_3 : decode cX1_worthPlace 3 = .ok (.bipush 6, 2) := by decide +kernel
theorem dX1_worthPlace_5 : decode cX1_worthPlace 5 = .ok (.imul, 1) := by decide +kernel
theorem dX1_worthPlace_6 : decode cX1_worthPlace 6 = .ok (.iload_n 1, 1) := by decide +kernel
theorem dX1_worthPlace_7 : decode cX1_worthPlace 7 = .ok (.iadd, 1) := by decide +kernel
theorem dX1_worthPlace_8 : decode cX1_worthPlace 8 = .ok (.iconst 1, 1) := by decide +kernel
theorem dX1_worthPlace_9 : decode cX1_worthPlace 9 = .ok (.iadd, 1) := by decide +kernel
theorem dX1_worthPlace_10 : decode cX1_worthPlace 10 = .ok (.ireturn, 1) := by decide +kernel
set_option maxRecDepth 20000 in
theorem ggX1_fillWays_X1_tableWords : GoodIn wsX1_fillWays wsX1_tableWords := goodIn_r _ [8, 9, 2, 3, 10, 11, 12, 13, 14, 15, 16, 17, 18, 19, 20, 21, 22, 23, 24, 25, 26, 27, 28, 29, 30, 7, 31, 32, 33, 34, 35, 36, 37, 38, 39, 40, 41, 61, 62, 63, 64, 65, 66, 67, 68, 69, 70, 71, 72, 73, 74, 75, 76, 77, 78, 79, 80, 81, 82, 83, 84, 85, 86] (by decide +kernel) (by decide +kernel)
set_option maxRecDepth 20000 in
theorem gX1_fillWays_X1_tableWords : GoodIn wsX1_fillWays (wsV RX1 71 RX1 yX1_tableWords wsX1_tableWords) := goodIn_app (goodIn_of _ (by decide +kernel)) ggX1_fillWays_X1_tableWords
set_option maxRecDepth 20000 in
theorem ggX1_fillWays_X4_fill : GoodIn wsX1_fillWays wsX4_fill := goodIn_r _ [43] (by decide +kernel) (by decide +kernel)
set_option maxRecDepth 20000 in
theorem gX1_fillWays_X4_fill_n74 : GoodIn wsX1_fillWays (wsX4_fill) := ggX1_fillWays_X4_fill
set_option maxRecDepth 20000 in
theorem ggX1_fillWays_X1_rowPlace : GoodIn wsX1_fillWays wsX1_rowPlace := goodIn_r _ [46] (by decide +kernel) (by decide +kernel)
set_option maxRecDepth 20000 in
theorem gX1_fillWays_X1_rowPlace : GoodIn wsX1_fillWays (va_wsS RX1 136 yX1_rowPlace wsX1_rowPlace) := goodIn_app (goodIn_of _ (by decide +kernel)) ggX1_fillWays_X1_rowPlace
set_option maxRecDepth 20000 in
theorem ggX1_fillWays_X3_allows : GoodIn wsX1_fillWays wsX3_allows := goodIn_r _ [51, 52, 53, 54, 55, 23, 56, 71, 72, 73, 74, 75, 76, 77, 78, 79, 80, 81, 82] (by decide +kernel) (by decide +kernel)
set_option maxRecDepth 20000 in
theorem gX1_fillWays_X3_allows : GoodIn wsX1_fillWays (wsV RX1 139 RX3 yX3_allows wsX3_allows) := goodIn_app (goodIn_of _ (by decide +kernel)) ggX1_fillWays_X3_allows
set_option maxRecDepth 20000 in
theorem ggX1_fillWays_X4_put : GoodIn wsX1_fillWays wsX4_put := goodIn_r _ [37] (by decide +kernel) (by decide +kernel)
set_option maxRecDepth 20000 in
theorem gX1_fillWays_X4_put_n64 : GoodIn wsX1_fillWays (wsX4_put) := ggX1_fillWays_X4_put
set_option maxRecDepth 20000 in
theorem ggX1_fillWays_X1_canBeWord : GoodIn wsX1_fillWays wsX1_canBeWord := goodIn_r _ [60, 3, 2, 10, 29, 30, 7, 31, 55, 23, 56, 47, 48, 49, 50, 51, 52, 53, 54, 61, 62, 63, 64, 65, 66, 67, 68, 69, 70, 71, 72, 73, 74, 75, 76, 77, 78, 79, 80, 81, 82] (by decide +kernel) (by decide +kernel)
set_option maxRecDepth 20000 in
theorem gX1_fillWays_X1_canBeWord : GoodIn wsX1_fillWays (wsV RX1 143 RX1 yX1_canBeWord wsX1_canBeWord) := goodIn_app (goodIn_of _ (by decide +kernel)) ggX1_fillWays_X1_canBeWord
set_option maxRecDepth 20000 in
theorem ggX1_fillWays_X1_wordPlace : GoodIn wsX1_fillWays wsX1_wordPlace := goodIn_r _ [31] (by decide +kernel) (by decide +kernel)
set_option maxRecDepth 20000 in
theorem gX1_fillWays_X1_wordPlace : GoodIn wsX1_fillWays (va_wsS RX1 56 yX1_wordPlace wsX1_wordPlace) := goodIn_app (goodIn_of _ (by decide +kernel)) ggX1_fillWays_X1_wordPlace
set_option maxRecDepth 20000 in
theorem ggX1_fillWays_X4_at : GoodIn wsX1_fillWays wsX4_at := goodIn_r _ [56] (by decide +kernel) (by decide +kernel)
set_option maxRecDepth 20000 in
theorem gX1_fillWays_X4_at_n93 : GoodIn wsX1_fillWays (wsX4_at) := ggX1_fillWays_X4_at
theorem dX1_fillWays_0 : decode cX1_fillWays 0 = .ok (.aload_n 0, 1) := by decide +kernel
theorem dX1_fillWays_1 : decode cX1_fillWays 1 = .ok (.invokevirtual 71, 3) := by decide +kernel
theorem dX1_fillWays_4 : decode cX1_fillWays 4 = .ok (.aload_n 0, 1) := by decide +kernel
theorem dX1_fillWays_5 : decode cX1_fillWays 5 = .ok (.getfield 27, 3) := by decide +kernel
theorem dX1_fillWays_8 : decode cX1_fillWays 8 = .ok (.iconst 0, 1) := by decide +kernel
theorem dX1_fillWays_9 : decode cX1_fillWays 9 = .ok (.invokestatic 74, 3) := by decide +kernel
theorem dX1_fillWays_12 : decode cX1_fillWays 12 = .ok (.aload_n 0, 1) := by decide +kernel
theorem dX1_fillWays_13 : decode cX1_fillWays 13 = .ok (.getfield 27, 3) := by decide +kernel
theorem dX1_fillWays_16 : decode cX1_fillWays 16 = .ok (.iconst 0, 1) := by decide +kernel
theorem dX1_fillWays_17 : decode cX1_fillWays 17 = .ok (.aload_n 0, 1) := by decide +kernel
theorem dX1_fillWays_18 : decode cX1_fillWays 18 = .ok (.getfield 40, 3) := by decide +kernel
theorem dX1_fillWays_21 : decode cX1_fillWays 21 = .ok (.getfield 90, 3) := by decide +kernel
theorem dX1_fillWays_24 : decode cX1_fillWays 24 = .ok (.invokestatic 136, 3) := by decide +kernel
theorem dX1_fillWays_27 : decode cX1_fillWays 27 = .ok (.aload_n 0, 1) := by decide +kernel
theorem dX1_fillWays_28 : decode cX1_fillWays 28 = .ok (.getfield 40, 3) := by decide +kernel
theorem dX1_fillWays_31 : decode cX1_fillWays 31 = .ok (.iconst 0, 1) := by decide +kernel
theorem dX1_fillWays_32 : decode cX1_fillWays 32 = .ok (.aload_n 0, 1) := by decide +kernel
theorem dX1_fillWays_33 : decode cX1_fillWays 33 = .ok (.getfield 40, 3) := by decide +kernel
theorem dX1_fillWays_36 : decode cX1_fillWays 36 = .ok (.getfield 87, 3) := by decide +kernel
theorem dX1_fillWays_39 : decode cX1_fillWays 39 = .ok (.invokevirtual 139, 3) := by decide +kernel
theorem dX1_fillWays_42 : decode cX1_fillWays 42 = .ok (.ifCond .eq 7, 3) := by decide +kernel
theorem dX1_fillWays_45 : decode cX1_fillWays 45 = .ok (.iconst 1, 1) := by decide +kernel
theorem dX1_fillWays_46 : decode cX1_fillWays 46 = .ok (.goto 4, 3) := by decide +kernel
theorem dX1_fillWays_49 : decode cX1_fillWays 49 = .ok (.iconst 0, 1) := by decide +kernel
theorem dX1_fillWays_50 : decode cX1_fillWays 50 = .ok (.invokestatic 64, 3) := by decide +kernel
theorem dX1_fillWays_53 : decode cX1_fillWays 53 = .ok (.iconst 1, 1) := by decide +kernel
theorem dX1_fillWays_54 : decode cX1_fillWays 54 = .ok (.istore_n 2, 1) := by decide +kernel
theorem dX1_fillWays_55 : decode cX1_fillWays 55 = .ok (.iload_n 2, 1) := by decide +kernel
theorem dX1_fillWays_56 : decode cX1_fillWays 56 = .ok (.iload_n 1, 1) := by decide +kernel
theorem dX1_fillWays_57 : decode cX1_fillWays 57 = .ok (.if_icmp .gt 100, 3) := by decide +kernel
theorem dX1_fillWays_60 : decode cX1_fillWays 60 = .ok (.iconst (-1), 1) := by decide +kernel
theorem dX1_fillWays_61 : decode cX1_fillWays 61 = .ok (.istore_n 3, 1) := by decide +kernel
theorem dX1_fillWays_62 : decode cX1_fillWays 62 = .ok (.iload_n 3, 1) := by decide +kernel
theorem dX1_fillWays_63 : decode cX1_fillWays 63 = .ok (.iconst 5, 1) := by decide +kernel
theorem dX1_fillWays_64 : decode cX1_fillWays 64 = .ok (.if_icmp .gt 87, 3) := by decide +kernel
theorem dX1_fillWays_67 : decode cX1_fillWays 67 = .ok (.iconst 0, 1) := by decide +kernel
theorem dX1_fillWays_68 : decode cX1_fillWays 68 = .ok (.istore 4, 2) := by decide +kernel
theorem dX1_fillWays_70 : decode cX1_fillWays 70 = .ok (.iload 4, 2) := by decide +kernel
theorem dX1_fillWays_72 : decode cX1_fillWays 72 = .ok (.iconst 5, 1) := by decide +kernel
theorem dX1_fillWays_73 : decode cX1_fillWays 73 = .ok (.if_icmp .ge 72, 3) := by decide +kernel
theorem dX1_fillWays_76 : decode cX1_fillWays 76 = .ok (.aload_n 0, 1) := by decide +kernel
theorem dX1_fillWays_77 : decode cX1_fillWays 77 = .ok (.iload_n 2, 1) := by decide +kernel
theorem dX1_fillWays_78 : decode cX1_fillWays 78 = .ok (.iload 4, 2) := by decide +kernel
theorem dX1_fillWays_80 : decode cX1_fillWays 80 = .ok (.iload_n 3, 1) := by decide +kernel
theorem dX1_fillWays_81 : decode cX1_fillWays 81 = .ok (.invokevirtual 143, 3) := by decide +kernel
theorem dX1_fillWays_84 : decode cX1_fillWays 84 = .ok (.ifCond .eq 55, 3) := by decide +kernel
theorem dX1_fillWays_87 : decode cX1_fillWays 87 = .ok (.iload_n 2, 1) := by decide +kernel
theorem dX1_fillWays_88 : decode cX1_fillWays 88 = .ok (.aload_n 0, 1) := by decide +kernel
theorem dX1_fillWays_89 : decode cX1_fillWays 89 = .ok (.getfield 9, 3) := by decide +kernel
theorem dX1_fillWays_92 : decode cX1_fillWays 92 = .ok (.iload_n 3, 1) := by decide +kernel
theorem dX1_fillWays_93 : decode cX1_fillWays 93 = .ok (.iload 4, 2) := by decide +kernel
theorem dX1_fillWays_95 : decode cX1_fillWays 95 = .ok (.invokestatic 56, 3) := by decide +kernel
theorem dX1_fillWays_98 : decode cX1_fillWays 98 = .ok (.invokestatic 93, 3) := by decide +kernel
theorem dX1_fillWays_101 : decode cX1_fillWays 101 = .ok (.invokestatic 136, 3) := by decide +kernel
theorem dX1_fillWays_104 : decode cX1_fillWays 104 = .ok (.istore 5, 2) := by decide +kernel
theorem dX1_fillWays_106 : decode cX1_fillWays 106 = .ok (.aload_n 0, 1) := by decide +kernel
theorem dX1_fillWays_107 : decode cX1_fillWays 107 = .ok (.getfield 27, 3) := by decide +kernel
theorem dX1_fillWays_110 : decode cX1_fillWays 110 = .ok (.iload 5, 2) := by decide +kernel
theorem dX1_fillWays_112 : decode cX1_fillWays 112 = .ok (.aload_n 0, 1) := by decide +kernel
theorem dX1_fillWays_113 : decode cX1_fillWays 113 = .ok (.getfield 27, 3) := by decide +kernel
theorem dX1_fillWays_116 : decode cX1_fillWays 116 = .ok (.iload 5, 2) := by decide +kernel
theorem dX1_fillWays_118 : decode cX1_fillWays 118 = .ok (.invokestatic 93, 3) := by decide +kernel
theorem dX1_fillWays_121 : decode cX1_fillWays 121 = .ok (.aload_n 0, 1) := by decide +kernel
theorem dX1_fillWays_122 : decode cX1_fillWays 122 = .ok (.getfield 27, 3) := by decide +kernel
theorem dX1_fillWays_125 : decode cX1_fillWays 125 = .ok (.iload_n 2, 1) := by decide +kernel
theorem dX1_fillWays_126 : decode cX1_fillWays 126 = .ok (.iconst 1, 1) := by decide +kernel
theorem dX1_fillWays_127 : decode cX1_fillWays 127 = .ok (.isub, 1) := by decide +kernel
theorem dX1_fillWays_128 : decode cX1_fillWays 128 = .ok (.iload_n 3, 1) := by decide +kernel
theorem dX1_fillWays_129 : decode cX1_fillWays 129 = .ok (.invokestatic 136, 3) := by decide +kernel
theorem dX1_fillWays_132 : decode cX1_fillWays 132 = .ok (.invokestatic 93, 3) := by decide +kernel
theorem dX1_fillWays_135 : decode cX1_fillWays 135 = .ok (.iadd, 1) := by decide +kernel
theorem dX1_fillWays_136 : decode cX1_fillWays 136 = .ok (.invokestatic 64, 3) := by decide +kernel
theorem dX1_fillWays_139 : decode cX1_fillWays 139 = .ok (.iinc 4 1, 3) := by decide +kernel
theorem dX1_fillWays_142 : decode cX1_fillWays 142 = .ok (.goto (-72), 3) := by decide +kernel
theorem dX1_fillWays_145 : decode cX1_fillWays 145 = .ok (.iinc 3 1, 3) := by decide +kernel
theorem dX1_fillWays_148 : decode cX1_fillWays 148 = .ok (.goto (-86), 3) := by decide +kernel
theorem dX1_fillWays_151 : decode cX1_fillWays 151 = .ok (.iinc 2 1, 3) := by decide +kernel
theorem dX1_fillWays_154 : decode cX1_fillWays 154 = .ok (.goto (-99), 3) := by decide +kernel
theorem dX1_fillWays_157 : decode cX1_fillWays 157 = .ok (.return_, 1) := by decide +kernel
set_option maxRecDepth 20000 in
theorem ggX1_waysOf_X1_rowPlace : GoodIn wsX1_waysOf wsX1_rowPlace := goodIn_r _ [5] (by decide +kernel) (by decide +kernel)
set_option maxRecDepth 20000 in
theorem gX1_waysOf_X1_rowPlace : GoodIn wsX1_waysOf (va_wsS RX1 136 yX1_rowPlace wsX1_rowPlace) := goodIn_app (goodIn_of _ (by decide +kernel)) ggX1_waysOf_X1_rowPlace
set_option maxRecDepth 20000 in
theorem ggX1_waysOf_X4_at : GoodIn wsX1_waysOf wsX4_at := goodIn_r _ [8] (by decide +kernel) (by decide +kernel)
set_option maxRecDepth 20000 in
theorem gX1_waysOf_X4_at_n93 : GoodIn wsX1_waysOf (wsX4_at) := ggX1_waysOf_X4_at
theorem dX1_waysOf_0 : decode cX1_waysOf 0 = .ok (.iconst 0, 1) := by decide +kernel
theorem dX1_waysOf_1 : decode cX1_waysOf 1 = .ok (.istore_n 2, 1) := by decide +kernel
theorem dX1_waysOf_2 : decode cX1_waysOf 2 = .ok (.iconst (-1), 1) := by decide +kernel
theorem dX1_waysOf_3 : decode cX1_waysOf 3 = .ok (.istore_n 3, 1) := by decide +kernel
theorem dX1_waysOf_4 : decode cX1_waysOf 4 = .ok (.iload_n 3, 1) := by decide +kernel
theorem dX1_waysOf_5 : decode cX1_waysOf 5 = .ok (.iconst 5, 1) := by decide +kernel
theorem dX1_waysOf_6 : decode cX1_waysOf 6 = .ok (.if_icmp .gt 24, 3) := by decide +kernel
theorem dX1_waysOf_9 : decode cX1_waysOf 9 = .ok (.iload_n 2, 1) := by decide +kernel
theorem dX1_waysOf_10 : decode cX1_waysOf 10 = .ok (.aload_n 0, 1) := by decide +kernel
theorem dX1_waysOf_11 : decode cX1_waysOf 11 = .ok (.getfield 27, 3) := by decide +kernel
theorem dX1_waysOf_14 : decode cX1_waysOf 14 = .ok (.iload_n 1, 1) := by decide +kernel
theorem dX1_waysOf_15 : decode cX1_waysOf 15 = .ok (.iload_n 3, 1) := by decide +kernel
theorem dX1_waysOf_16 : decode cX1_waysOf 16 = .ok (.invokestatic 136, 3) := by decide +kernel
theorem dX1_waysOf_19 : decode cX1_waysOf 19 = .ok (.invokestatic 93, 3) := by decide +kernel
theorem dX1_waysOf_22 : decode cX1_waysOf 22 = .ok (.iadd, 1) := by decide +kernel
theorem dX1_waysOf_23 : decode cX1_waysOf 23 = .ok (.istore_n 2, 1) := by decide +kernel
theorem dX1_waysOf_24 : decode cX1_waysOf 24 = .ok (.iinc 3 1, 3) := by decide +kernel
theorem dX1_waysOf_27 : decode cX1_waysOf 27 = .ok (.goto (-23), 3) := by decide +kernel
theorem dX1_waysOf_30 : decode cX1_waysOf 30 = .ok (.iload_n 2, 1) := by decide +kernel
theorem dX1_waysOf_31 : decode cX1_waysOf 31 = .ok (.ireturn, 1) := by decide +kernel
set_option maxRecDepth 20000 in
theorem ggX1_lastsBehind_X1_rowPlace : GoodIn wsX1_lastsBehind wsX1_rowPlace := goodIn_r _ [5] (by decide +kernel) (by decide +kernel)
set_option maxRecDepth 20000 in
theorem gX1_lastsBehind_X1_rowPlace : GoodIn wsX1_lastsBehind (va_wsS RX1 136 yX1_rowPlace wsX1_rowPlace) := goodIn_app (goodIn_of _ (by decide +kernel)) ggX1_lastsBehind_X1_rowPlace
set_option maxRecDepth 20000 in
theorem ggX1_lastsBehind_X4_at : GoodIn wsX1_lastsBehind wsX4_at := goodIn_r _ [8] (by decide +kernel) (by decide +kernel)
set_option maxRecDepth 20000 in
theorem gX1_lastsBehind_X4_at_n93 : GoodIn wsX1_lastsBehind (wsX4_at) := ggX1_lastsBehind_X4_at
theorem dX1_lastsBehind_0 : decode cX1_lastsBehind 0 = .ok (.iconst 0, 1) := by decide +kernel
theorem dX1_lastsBehind_1 : decode cX1_lastsBehind 1 = .ok (.istore_n 2, 1) := by decide +kernel
theorem dX1_lastsBehind_2 : decode cX1_lastsBehind 2 = .ok (.iconst (-1), 1) := by decide +kernel
theorem dX1_lastsBehind_3 : decode cX1_lastsBehind 3 = .ok (.istore_n 3, 1) := by decide +kernel
theorem dX1_lastsBehind_4 : decode cX1_lastsBehind 4 = .ok (.iload_n 3, 1) := by decide +kernel
theorem dX1_lastsBehind_5 : decode cX1_lastsBehind 5 = .ok (.iconst 5, 1) := by decide +kernel
theorem dX1_lastsBehind_6 : decode cX1_lastsBehind 6 = .ok (.if_icmp .gt 40, 3) := by decide +kernel
theorem dX1_lastsBehind_9 : decode cX1_lastsBehind 9 = .ok (.aload_n 0, 1) := by decide +kernel
theorem dX1_lastsBehind_10 : decode cX1_lastsBehind 10 = .ok (.getfield 27, 3) := by decide +kernel
theorem dX1_lastsBehind_13 : decode cX1_lastsBehind 13 = .ok (.iload_n 1, 1) := by decide +kernel
theorem dX1_lastsBehind_14 : decode cX1_lastsBehind 14 = .ok (.iload_n 3, 1) := by decide +kernel
theorem dX1_lastsBehind_15 : decode cX1_lastsBehind 15 = .ok (.invokestatic 136, 3) := by decide +kernel
theorem dX1_lastsBehind_18 : decode cX1_lastsBehind 18 = .ok (.invokestatic 93, 3) := by decide +kernel
theorem dX1_lastsBehind_21 : decode cX1_lastsBehind 21 = .ok (.ifCond .le 19, 3) := by decide +kernel
theorem dX1_lastsBehind_24 : decode cX1_lastsBehind 24 = .ok (.iload_n 2, 1) := by decide +kernel
theorem dX1_lastsBehind_25 : decode cX1_lastsBehind 25 = .ok (.iconst 1, 1) := by decide +kernel
theorem dX1_lastsBehind_26 : decode cX1_lastsBehind 26 = .ok (.iload_n 3, 1) := by decide +kernel
theorem dX1_lastsBehind_27 : decode cX1_lastsBehind 27 = .ok (.iconst (-1), 1) := by decide +kernel
theorem dX1_lastsBehind_28 : decode cX1_lastsBehind 28 = .ok (.if_icmp .ne 8, 3) := by decide +kernel
theorem dX1_lastsBehind_31 : decode cX1_lastsBehind 31 = .ok (.bipush 6, 2) := by decide +kernel
theorem dX1_lastsBehind_33 : decode cX1_lastsBehind 33 = .ok (.goto 4, 3) := by decide +kernel
theorem dX1_lastsBehind_36 : decode cX1_lastsBehind 36 = .ok (.iload_n 3, 1) := by decide +kernel
theorem dX1_lastsBehind_37 : decode cX1_lastsBehind 37 = .ok (.ishl, 1) := by decide +kernel
theorem dX1_lastsBehind_38 : decode cX1_lastsBehind 38 = .ok (.ior, 1) := by decide +kernel
theorem dX1_lastsBehind_39 : decode cX1_lastsBehind 39 = .ok (.istore_n 2, 1) := by decide +kernel
theorem dX1_lastsBehind_40 : decode cX1_lastsBehind 40 = .ok (.iinc 3 1, 3) := by decide +kernel
theorem dX1_lastsBehind_43 : decode cX1_lastsBehind 43 = .ok (.goto (-39), 3) := by decide +kernel
theorem dX1_lastsBehind_46 : decode cX1_lastsBehind 46 = .ok (.iload_n 2, 1) := by decide +kernel
theorem dX1_lastsBehind_47 : decode cX1_lastsBehind 47 = .ok (.ireturn, 1) := by decide +kernel
set_option maxRecDepth 20000 in
theorem ggX1_bestLook_X1_fillWays : GoodIn wsX1_bestLook wsX1_fillWays := goodIn_r _ [5, 6, 7, 8, 9, 10, 11, 4, 12, 13, 14, 15, 16, 17, 18, 19, 20, 21, 22, 23, 24, 25, 26, 27, 28, 29, 30, 31, 32, 33, 34, 35, 36, 37, 38, 39, 40, 41, 42, 43, 44, 45, 46, 47, 48, 49, 50, 51, 52, 53, 54, 55, 56, 57, 58, 59, 60, 61, 62, 63, 64, 83, 84, 85, 86, 87, 88, 89, 90, 91, 92, 93, 94, 95, 96, 97, 98, 99, 100, 101, 102, 103, 104, 105, 106, 107, 108] (by decide +kernel) (by decide +kernel)
set_option maxRecDepth 20000 in
theorem gX1_bestLook_X1_fillWays : GoodIn wsX1_bestLook (wsV RX1 146 RX1 yX1_fillWays wsX1_fillWays) := goodIn_app (goodIn_of _ (by decide +kernel)) ggX1_bestLook_X1_fillWays
set_option maxRecDepth 20000 in
theorem ggX1_bestLook_X1_waysOf : GoodIn wsX1_bestLook wsX1_waysOf := goodIn_r _ [68, 6, 48, 49, 4, 50, 59, 27, 60, 83, 84, 85, 86, 87, 88, 89, 90, 91, 92] (by decide +kernel) (by decide +kernel)
set_option maxRecDepth 20000 in
theorem gX1_bestLook_X1_waysOf : GoodIn wsX1_bestLook (wsV RX1 149 RX1 yX1_waysOf wsX1_waysOf) := goodIn_app (goodIn_of _ (by decide +kernel)) ggX1_bestLook_X1_waysOf
set_option maxRecDepth 20000 in
theorem ggX1_bestLook_X1_fillEndings : GoodIn wsX1_bestLook wsX1_fillEndings := goodIn_r _ [72, 73, 8, 46, 27, 47, 48, 49, 4, 50, 40, 41, 61, 62, 63, 64, 7, 14, 33, 34, 35, 59, 60, 51, 52, 53, 54, 55, 56, 57, 58, 83, 84, 85, 86, 87, 88, 89, 90, 91, 92, 93, 94, 95, 96, 97, 98, 99, 100, 101, 102, 103, 104] (by decide +kernel) (by decide +kernel)
set_option maxRecDepth 20000 in
theorem gX1_bestLook_X1_fillEndings : GoodIn wsX1_bestLook (wsV RX1 152 RX1 yX1_fillEndings wsX1_fillEndings) := goodIn_app (goodIn_of _ (by decide +kernel)) ggX1_bestLook_X1_fillEndings
set_option maxRecDepth 20000 in
theorem ggX1_bestLook_X1_mostLeft : GoodIn wsX1_bestLook wsX1_mostLeft := goodIn_r _ [77, 78, 6, 14, 73, 8, 79, 80, 81, 82, 46, 27, 47, 48, 49, 4, 50, 59, 60, 61, 62, 63, 64, 7, 33, 34, 35, 51, 52, 53, 54, 55, 56, 57, 58, 40, 41, 83, 84, 85, 86, 87, 88, 89, 90, 91, 92, 93, 94, 95, 96, 97, 98, 99, 100, 101, 102, 103, 104] (by decide +kernel) (by decide +kernel)
set_option maxRecDepth 20000 in
theorem gX1_bestLook_X1_mostLeft : GoodIn wsX1_bestLook (wsV RX1 155 RX1 yX1_mostLeft wsX1_mostLeft) := goodIn_app (goodIn_of _ (by decide +kernel)) ggX1_bestLook_X1_mostLeft
theorem dX1_bestLook_0 : decode cX1_bestLook 0 = .ok (.aload_n 0, 1) := by decide +kernel
theorem dX1_bestLook_1 : decode cX1_bestLook 1 = .ok (.bipush 6, 2) := by decide +kernel
theorem dX1_bestLook_3 : decode cX1_bestLook 3 = .ok (.invokevirtual 146, 3) := by decide +kernel
theorem dX1_bestLook_6 : decode cX1_bestLook 6 = .ok (.aload_n 0, 1) := by decide +kernel
theorem dX1_bestLook_7 : decode cX1_bestLook 7 = .ok (.bipush 6, 2) := by decide +kernel
theorem dX1_bestLook_9 : decode cX1_bestLook 9 = .ok (.invokevirtual 149, 3) := by decide +kernel
theorem dX1_bestLook_12 : decode cX1_bestLook 12 = .ok (.ifCond .ne 5, 3) := by decide +kernel
theorem dX1_bestLook_15 : decode cX1_bestLook 15 = .ok (.iconst (-1), 1) := by decide +kernel
theorem dX1_bestLook_16 : decode cX1_bestLook 16 = .ok (.ireturn, 1) := by decide +kernel
theorem dX1_bestLook_17 : decode cX1_bestLook 17 = .ok (.aload_n 0, 1) := by decide +kernel
theorem dX1_bestLook_18 : decode cX1_bestLook 18 = .ok (.invokevirtual 152, 3) := by decide +kernel
theorem dX1_bestLook_21 : decode cX1_bestLook 21 = .ok (.iconst 1, 1) := by decide +kernel
theorem dX1_bestLook_22 : decode cX1_bestLook 22 = .ok (.istore_n 1, 1) := by decide +kernel
theorem dX1_bestLook_23 : decode cX1_bestLook 23 = .ok (.aload_n 0, 1) := by decide +kernel
theorem dX1_bestLook_24 : decode cX1_bestLook 24 = .ok (.iconst 1, 1) := by decide +kernel
theorem dX1_bestLook_25 : decode cX1_bestLook 25 = .ok (.invokevirtual 155, 3) := by decide +kernel
theorem dX1_bestLook_28 : decode cX1_bestLook 28 = .ok (.istore_n 2, 1) := by decide +kernel
theorem dX1_bestLook_29 : decode cX1_bestLook 29 = .ok (.iconst 2, 1) := by decide +kernel
theorem dX1_bestLook_30 : decode cX1_bestLook 30 = .ok (.istore_n 3, 1) := by decide +kernel
theorem dX1_bestLook_31 : decode cX1_bestLook 31 = .ok (.iload_n 3, 1) := by decide +kernel
theorem dX1_bestLook_32 : decode cX1_bestLook 32 = .ok (.bipush 6, 2) := by decide +kernel
theorem dX1_bestLook_34 : decode cX1_bestLook 34 = .ok (.if_icmp .gt 27, 3) := by decide +kernel
theorem dX1_bestLook_37 : decode cX1_bestLook 37 = .ok (.aload_n 0, 1) := by decide +kernel
theorem dX1_bestLook_38 : decode cX1_bestLook 38 = .ok (.iload_n 3, 1) := by decide +kernel
theorem dX1_bestLook_39 : decode cX1_bestLook 39 = .ok (.invokevirtual 155, 3) := by decide +kernel
theorem dX1_bestLook_42 : decode cX1_bestLook 42 = .ok (.istore 4, 2) := by decide +kernel
theorem dX1_bestLook_44 : decode cX1_bestLook 44 = .ok (.iload 4, 2) := by decide +kernel
theorem dX1_bestLook_46 : decode cX1_bestLook 46 = .ok (.iload_n 2, 1) := by decide +kernel
theorem dX1_bestLook_47 : decode cX1_bestLook 47 = .ok (.if_icmp .ge 8, 3) := by decide +kernel
theorem dX1_bestLook_50 : decode cX1_bestLook 50 = .ok (.iload_n 3, 1) := by decide +kernel
theorem dX1_bestLook_51 : decode cX1_bestLook 51 = .ok (.istore_n 1, 1) := by decide +kernel
theorem dX1_bestLook_52 : decode cX1_bestLook 52 = .ok (.iload 4, 2) := by decide +kernel
theorem dX1_bestLook_54 : decode cX1_bestLook 54 = .ok (.istore_n 2, 1) := by decide +kernel
theorem dX1_bestLook_55 : decode cX1_bestLook 55 = .ok (.iinc 3 1, 3) := by decide +kernel
theorem dX1_bestLook_58 : decode cX1_bestLook 58 = .ok (.goto (-27), 3) := by decide +kernel
theorem dX1_bestLook_61 : decode cX1_bestLook 61 = .ok (.iload_n 1, 1) := by decide +kernel
theorem dX1_bestLook_62 : decode cX1_bestLook 62 = .ok (.ireturn, 1) := by decide +kernel
set_option maxRecDepth 20000 in
theorem ggX1_fillEndings_X4_fill : GoodIn wsX1_fillEndings wsX4_fill := goodIn_r _ [5] (by decide +kernel) (by decide +kernel)
set_option maxRecDepth 20000 in
theorem gX1_fillEndings_X4_fill_n74 : GoodIn wsX1_fillEndings (wsX4_fill) := ggX1_fillEndings_X4_fill
set_option maxRecDepth 20000 in
theorem ggX1_fillEndings_X1_rowPlace : GoodIn wsX1_fillEndings wsX1_rowPlace := goodIn_r _ [9] (by decide +kernel) (by decide +kernel)
set_option maxRecDepth 20000 in
theorem gX1_fillEndings_X1_rowPlace : GoodIn wsX1_fillEndings (va_wsS RX1 136 yX1_rowPlace wsX1_rowPlace) := goodIn_app (goodIn_of _ (by decide +kernel)) ggX1_fillEndings_X1_rowPlace
set_option maxRecDepth 20000 in
theorem ggX1_fillEndings_X4_put : GoodIn wsX1_fillEndings wsX4_put := goodIn_r _ [11] (by decide +kernel) (by decide +kernel)
set_option maxRecDepth 20000 in
theorem gX1_fillEndings_X4_put_n64 : GoodIn wsX1_fillEndings (wsX4_put) := ggX1_fillEndings_X4_put
set_option maxRecDepth 20000 in
theorem ggX1_fillEndings_X1_canBeWord : GoodIn wsX1_fillEndings wsX1_canBeWord := goodIn_r _ [15, 2, 16, 17, 18, 19, 8, 20, 21, 4, 22, 23, 24, 25, 26, 27, 28, 29, 30, 31, 32, 33, 34, 35, 36, 37, 38, 39, 40, 41, 42, 43, 44, 45, 46, 47, 48, 49, 50, 51, 52] (by decide +kernel) (by decide +kernel)
set_option maxRecDepth 20000 in
theorem gX1_fillEndings_X1_canBeWord : GoodIn wsX1_fillEndings (wsV RX1 143 RX1 yX1_canBeWord wsX1_canBeWord) := goodIn_app (goodIn_of _ (by decide +kernel)) ggX1_fillEndings_X1_canBeWord
set_option maxRecDepth 20000 in
theorem ggX1_fillEndings_X1_wordPlace : GoodIn wsX1_fillEndings wsX1_wordPlace := goodIn_r _ [20] (by decide +kernel) (by decide +kernel)
set_option maxRecDepth 20000 in
theorem gX1_fillEndings_X1_wordPlace : GoodIn wsX1_fillEndings (va_wsS RX1 56 yX1_wordPlace wsX1_wordPlace) := goodIn_app (goodIn_of _ (by decide +kernel)) ggX1_fillEndings_X1_wordPlace
set_option maxRecDepth 20000 in
theorem ggX1_fillEndings_X4_at : GoodIn wsX1_fillEndings wsX4_at := goodIn_r _ [22] (by decide +kernel) (by decide +kernel)
set_option maxRecDepth 20000 in
theorem gX1_fillEndings_X4_at_n93 : GoodIn wsX1_fillEndings (wsX4_at) := ggX1_fillEndings_X4_at
theorem dX1_fillEndings_0 : decode cX1_fillEndings 0 = .ok (.aload_n 0, 1) := by decide +kernel
theorem dX1_fillEndings_1 : decode cX1_fillEndings 1 = .ok (.getfield 30, 3) := by decide +kernel
theorem dX1_fillEndings_4 : decode cX1_fillEndings 4 = .ok (.iconst 0, 1) := by decide +kernel
theorem dX1_fillEndings_5 : decode cX1_fillEndings 5 = .ok (.invokestatic 74, 3) := by decide +kernel
theorem dX1_fillEndings_8 : decode cX1_fillEndings 8 = .ok (.iconst (-1), 1) := by decide +kernel
theorem dX1_fillEndings_9 : decode cX1_fillEndings 9 = .ok (.istore_n 1, 1) := by decide +kernel
theorem dX1_fillEndings_10 : decode cX1_fillEndings 10 = .ok (.iload_n 1, 1) := by decide +kernel
theorem dX1_fillEndings_11 : decode cX1_fillEndings 11 = .ok (.iconst 5, 1) := by decide +kernel
theorem dX1_fillEndings_12 : decode cX1_fillEndings 12 = .ok (.if_icmp .gt 23, 3) := by decide +kernel
theorem dX1_fillEndings_15 : decode cX1_fillEndings 15 = .ok (.aload_n 0, 1) := by decide +kernel
theorem dX1_fillEndings_16 : decode cX1_fillEndings 16 = .ok (.getfield 30, 3) := by decide +kernel
theorem dX1_fillEndings_19 : decode cX1_fillEndings 19 = .ok (.bipush 6, 2) := by decide +kernel
theorem dX1_fillEndings_21 : decode cX1_fillEndings 21 = .ok (.iload_n 1, 1) := by decide +kernel
theorem dX1_fillEndings_22 : decode cX1_fillEndings 22 = .ok (.invokestatic 136, 3) := by decide +kernel
theorem dX1_fillEndings_25 : decode cX1_fillEndings 25 = .ok (.iconst 1, 1) := by decide +kernel
theorem dX1_fillEndings_26 : decode cX1_fillEndings 26 = .ok (.invokestatic 64, 3) := by decide +kernel
theorem dX1_fillEndings_29 : decode cX1_fillEndings 29 = .ok (.iinc 1 1, 3) := by decide +kernel
theorem dX1_fillEndings_32 : decode cX1_fillEndings 32 = .ok (.goto (-22), 3) := by decide +kernel
theorem dX1_fillEndings_35 : decode cX1_fillEndings 35 = .ok (.bipush 6, 2) := by decide +kernel
theorem dX1_fillEndings_37 : decode cX1_fillEndings 37 = .ok (.istore_n 1, 1) := by decide +kernel
theorem dX1_fillEndings_38 : decode cX1_fillEndings 38 = .ok (.iload_n 1, 1) := by decide +kernel
theorem dX1_fillEndings_39 : decode cX1_fillEndings 39 = .ok (.iconst 1, 1) := by decide +kernel
theorem dX1_fillEndings_40 : decode cX1_fillEndings 40 = .ok (.if_icmp .le 92, 3) := by decide +kernel
theorem dX1_fillEndings_43 : decode cX1_fillEndings 43 = .ok (.iconst (-1), 1) := by decide +kernel
theorem dX1_fillEndings_44 : decode cX1_fillEndings 44 = .ok (.istore_n 2, 1) := by decide +kernel
theorem dX1_fillEndings_45 : decode cX1_fillEndings 45 = .ok (.iload_n 2, 1) := by decide +kernel
theorem dX1_fillEndings_46 : decode cX1_fillEndings 46 = .ok (.iconst 5, 1) := by decide +kernel
theorem dX1_fillEndings_47 : decode cX1_fillEndings 47 = .ok (.if_icmp .gt 79, 3) := by decide +kernel
theorem dX1_fillEndings_50 : decode cX1_fillEndings 50 = .ok (.iconst 0, 1) := by decide +kernel
theorem dX1_fillEndings_51 : decode cX1_fillEndings 51 = .ok (.istore_n 3, 1) := by decide +kernel
theorem dX1_fillEndings_52 : decode cX1_fillEndings 52 = .ok (.iconst 0, 1) := by decide +kernel
theorem dX1_fillEndings_53 : decode cX1_fillEndings 53 = .ok (.istore 4, 2) := by decide +kernel
theorem dX1_fillEndings_55 : decode cX1_fillEndings 55 = .ok (.iload 4, 2) := by decide +kernel
theorem dX1_fillEndings_57 : decode cX1_fillEndings 57 = .ok (.iconst 5, 1) := by decide +kernel
theorem dX1_fillEndings_58 : decode cX1_fillEndings 58 = .ok (.if_icmp .ge 47, 3) := by decide +kernel
theorem dX1_fillEndings_61 : decode cX1_fillEndings 61 = .ok (.aload_n 0, 1) := by decide +kernel
theorem dX1_fillEndings_62 : decode cX1_fillEndings 62 = .ok (.iload_n 1, 1) := by decide +kernel
theorem dX1_fillEndings_63 : decode cX1_fillEndings 63 = .ok (.iload 4, 2) := by decide +kernel
theorem dX1_fillEndings_65 : decode cX1_fillEndings 65 = .ok (.iload_n 2, 1) := by decide +kernel
theorem dX1_fillEndings_66 : decode cX1_fillEndings 66 = .ok (.invokevirtual 143, 3) := by decide +kernel
theorem dX1_fillEndings_69 : decode cX1_fillEndings 69 = .ok (.ifCond .eq 30, 3) := by decide +kernel
theorem dX1_fillEndings_72 : decode cX1_fillEndings 72 = .ok (.iload_n 3, 1) := by decide +kernel
theorem dX1_fillEndings_73 : decode cX1_fillEndings 73 = .ok (.aload_n 0, 1) := by decide +kernel
theorem dX1_fillEndings_74 : decode cX1_fillEndings 74 = .ok (.getfield 30, 3) := by decide +kernel
theorem dX1_fillEndings_77 : decode cX1_fillEndings 77 = .ok (.iload_n 1, 1) := by decide +kernel
theorem dX1_fillEndings_78 : decode cX1_fillEndings 78 = .ok (.aload_n 0, 1) := by decide +kernel
theorem dX1_fillEndings_79 : decode cX1_fillEndings 79 = .ok (.getfield 9, 3) := by decide +kernel
theorem dX1_fillEndings_82 : decode cX1_fillEndings 82 = .ok (.iload_n 2, 1) := by decide +kernel
theorem dX1_fillEndings_83 : decode cX1_fillEndings 83 = .ok (.iload 4, 2) := by decide +kernel
theorem dX1_fillEndings_85 : decode cX1_fillEndings 85 = .ok (.invokestatic 56, 3) := by decide +kernel
theorem dX1_fillEndings_88 : decode cX1_fillEndings 88 = .ok (.invokestatic 93, 3) := by decide +kernel
theorem dX1_fillEndings_91 : decode cX1_fillEndings 91 = .ok (.invokestatic 136, 3) := by decide +kernel
theorem dX1_fillEndings_94 : decode cX1_fillEndings 94 = .ok (.invokestatic 93, 3) := by decide +kernel
theorem dX1_fillEndings_97 : decode cX1_fillEndings 97 = .ok (.iadd, 1) := by decide +kernel
theorem dX1_fillEndings_98 : decode cX1_fillEndings 98 = .ok (.istore_n 3, 1) := by decide +kernel
theorem dX1_fillEndings_99 : decode cX1_fillEndings 99 = .ok (.iinc 4 1, 3) := by decide +kernel
theorem dX1_fillEndings_102 : decode cX1_fillEndings 102 = .ok (.goto (-47), 3) := by decide +kernel
theorem dX1_fillEndings_105 : decode cX1_fillEndings 105 = .ok (.aload_n 0, 1) := by decide +kernel
theorem dX1_fillEndings_106 : decode cX1_fillEndings 106 = .ok (.getfield 30, 3) := by decide +kernel
theorem dX1_fillEndings_109 : decode cX1_fillEndings 109 = .ok (.iload_n 1, 1) := by decide +kernel
theorem dX1_fillEndings_110 : decode cX1_fillEndings 110 = .ok (.iconst 1, 1) := by decide +kernel
theorem dX1_fillEndings_111 : decode cX1_fillEndings 111 = .ok (.isub, 1) := by decide +kernel
theorem dX1_fillEndings_112 : decode cX1_fillEndings 112 = .ok (.iload_n 2, 1) := by decide +kernel
theorem dX1_fillEndings_113 : decode cX1_fillEndings 113 = .ok (.invokestatic 136, 3) := by decide +kernel
theorem dX1_fillEndings_116 : decode cX1_fillEndings 116 = .ok (.iload_n 3, 1) := by decide +kernel
theorem dX1_fillEndings_117 : decode cX1_fillEndings 117 = .ok (.invokestatic 64, 3) := by decide +kernel
theorem dX1_fillEndings_120 : decode cX1_fillEndings 120 = .ok (.iinc 2 1, 3) := by decide +kernel
theorem dX1_fillEndings_123 : decode cX1_fillEndings 123 = .ok (.goto (-78), 3) := by decide +kernel
theorem dX1_fillEndings_126 : decode cX1_fillEndings 126 = .ok (.iinc 1 (-1), 3) := by decide +kernel
theorem dX1_fillEndings_129 : decode cX1_fillEndings 129 = .ok (.goto (-91), 3) := by decide +kernel
theorem dX1_fillEndings_132 : decode cX1_fillEndings 132 = .ok (.return_, 1) := by decide +kernel
set_option maxRecDepth 20000 in
theorem ggX1_mostLeft_X4_fill : GoodIn wsX1_mostLeft wsX4_fill := goodIn_r _ [12] (by decide +kernel) (by decide +kernel)
set_option maxRecDepth 20000 in
theorem gX1_mostLeft_X4_fill_n74 : GoodIn wsX1_mostLeft (wsX4_fill) := ggX1_mostLeft_X4_fill
set_option maxRecDepth 20000 in
theorem ggX1_mostLeft_X1_rowPlace : GoodIn wsX1_mostLeft wsX1_rowPlace := goodIn_r _ [16] (by decide +kernel) (by decide +kernel)
set_option maxRecDepth 20000 in
theorem gX1_mostLeft_X1_rowPlace : GoodIn wsX1_mostLeft (va_wsS RX1 136 yX1_rowPlace wsX1_rowPlace) := goodIn_app (goodIn_of _ (by decide +kernel)) ggX1_mostLeft_X1_rowPlace
set_option maxRecDepth 20000 in
theorem ggX1_mostLeft_X4_at : GoodIn wsX1_mostLeft wsX4_at := goodIn_r _ [18] (by decide +kernel) (by decide +kernel)
set_option maxRecDepth 20000 in
theorem gX1_mostLeft_X4_at_n93 : GoodIn wsX1_mostLeft (wsX4_at) := ggX1_mostLeft_X4_at
set_option maxRecDepth 20000 in
theorem ggX1_mostLeft_X1_canBeWord : GoodIn wsX1_mostLeft wsX1_canBeWord := goodIn_r _ [22, 5, 23, 3, 24, 25, 15, 26, 17, 11, 18, 27, 28, 29, 30, 31, 32, 33, 34, 37, 38, 39, 40, 41, 42, 43, 44, 45, 46, 47, 48, 49, 50, 51, 52, 53, 54, 55, 56, 57, 58] (by decide +kernel) (by decide +kernel)
set_option maxRecDepth 20000 in
theorem gX1_mostLeft_X1_canBeWord : GoodIn wsX1_mostLeft (wsV RX1 143 RX1 yX1_canBeWord wsX1_canBeWord) := goodIn_app (goodIn_of _ (by decide +kernel)) ggX1_mostLeft_X1_canBeWord
set_option maxRecDepth 20000 in
theorem ggX1_mostLeft_X1_wordPlace : GoodIn wsX1_mostLeft wsX1_wordPlace := goodIn_r _ [26] (by decide +kernel) (by decide +kernel)
set_option maxRecDepth 20000 in
theorem gX1_mostLeft_X1_wordPlace : GoodIn wsX1_mostLeft (va_wsS RX1 56 yX1_wordPlace wsX1_wordPlace) := goodIn_app (goodIn_of _ (by decide +kernel)) ggX1_mostLeft_X1_wordPlace
set_option maxRecDepth 20000 in
theorem ggX1_mostLeft_X4_put : GoodIn wsX1_mostLeft wsX4_put := goodIn_r _ [36] (by decide +kernel) (by decide +kernel)
set_option maxRecDepth 20000 in
theorem gX1_mostLeft_X4_put_n64 : GoodIn wsX1_mostLeft (wsX4_put) := ggX1_mostLeft_X4_put
theorem dX1_mostLeft_0 : decode cX1_mostLeft 0 = .ok (.aload_n 0, 1) := by decide +kernel
theorem dX1_mostLeft_1 : decode cX1_mostLeft 1 = .ok (.getfield 33, 3) := by decide +kernel
theorem dX1_mostLeft_4 : decode cX1_mostLeft 4 = .ok (.iconst 0, 1) := by decide +kernel
theorem dX1_mostLeft_5 : decode cX1_mostLeft 5 = .ok (.invokestatic 74, 3) := by decide +kernel
theorem dX1_mostLeft_8 : decode cX1_mostLeft 8 = .ok (.iconst 0, 1) := by decide +kernel
theorem dX1_mostLeft_9 : decode cX1_mostLeft 9 = .ok (.istore_n 2, 1) := by decide +kernel
theorem dX1_mostLeft_10 : decode cX1_mostLeft 10 = .ok (.iconst (-1), 1) := by decide +kernel
theorem dX1_mostLeft_11 : decode cX1_mostLeft 11 = .ok (.istore_n 3, 1) := by decide +kernel
theorem dX1_mostLeft_12 : decode cX1_mostLeft 12 = .ok (.iload_n 3, 1) := by decide +kernel
theorem dX1_mostLeft_13 : decode cX1_mostLeft 13 = .ok (.iconst 5, 1) := by decide +kernel
theorem dX1_mostLeft_14 : decode cX1_mostLeft 14 = .ok (.if_icmp .gt 125, 3) := by decide +kernel
theorem dX1_mostLeft_17 : decode cX1_mostLeft 17 = .ok (.aload_n 0, 1) := by decide +kernel
theorem dX1_mostLeft_18 : decode cX1_mostLeft 18 = .ok (.getfield 27, 3) := by decide +kernel
theorem dX1_mostLeft_21 : decode cX1_mostLeft 21 = .ok (.iload_n 1, 1) := by decide +kernel
theorem dX1_mostLeft_22 : decode cX1_mostLeft 22 = .ok (.iconst 1, 1) := by decide +kernel
theorem dX1_mostLeft_23 : decode cX1_mostLeft 23 = .ok (.isub, 1) := by decide +kernel
theorem dX1_mostLeft_24 : decode cX1_mostLeft 24 = .ok (.iload_n 3, 1) := by decide +kernel
theorem dX1_mostLeft_25 : decode cX1_mostLeft 25 = .ok (.invokestatic 136, 3) := by decide +kernel
theorem dX1_mostLeft_28 : decode cX1_mostLeft 28 = .ok (.invokestatic 93, 3) := by decide +kernel
theorem dX1_mostLeft_31 : decode cX1_mostLeft 31 = .ok (.istore 4, 2) := by decide +kernel
theorem dX1_mostLeft_33 : decode cX1_mostLeft 33 = .ok (.iconst 0, 1) := by decide +kernel
theorem dX1_mostLeft_34 : decode cX1_mostLeft 34 = .ok (.istore 5, 2) := by decide +kernel
theorem dX1_mostLeft_36 : decode cX1_mostLeft 36 = .ok (.iload 5, 2) := by decide +kernel
theorem dX1_mostLeft_38 : decode cX1_mostLeft 38 = .ok (.iconst 5, 1) := by decide +kernel
theorem dX1_mostLeft_39 : decode cX1_mostLeft 39 = .ok (.if_icmp .ge 94, 3) := by decide +kernel
theorem dX1_mostLeft_42 : decode cX1_mostLeft 42 = .ok (.aload_n 0, 1) := by decide +kernel
theorem dX1_mostLeft_43 : decode cX1_mostLeft 43 = .ok (.iload_n 1, 1) := by decide +kernel
theorem dX1_mostLeft_44 : decode cX1_mostLeft 44 = .ok (.iload 5, 2) := by decide +kernel
theorem dX1_mostLeft_46 : decode cX1_mostLeft 46 = .ok (.iload_n 3, 1) := by decide +kernel
theorem dX1_mostLeft_47 : decode cX1_mostLeft 47 = .ok (.invokevirtual 143, 3) := by decide +kernel
theorem dX1_mostLeft_50 : decode cX1_mostLeft 50 = .ok (.ifCond .eq 77, 3) := by decide +kernel
theorem dX1_mostLeft_53 : decode cX1_mostLeft 53 = .ok (.iload_n 3, 1) := by decide +kernel
theorem dX1_mostLeft_54 : decode cX1_mostLeft 54 = .ok (.iload 5, 2) := by decide +kernel
theorem dX1_mostLeft_56 : decode cX1_mostLeft 56 = .ok (.invokestatic 56, 3) := by decide +kernel
theorem dX1_mostLeft_59 : decode cX1_mostLeft 59 = .ok (.istore 6, 2) := by decide +kernel
theorem dX1_mostLeft_61 : decode cX1_mostLeft 61 = .ok (.aload_n 0, 1) := by decide +kernel
theorem dX1_mostLeft_62 : decode cX1_mostLeft 62 = .ok (.getfield 15, 3) := by decide +kernel
theorem dX1_mostLeft_65 : decode cX1_mostLeft 65 = .ok (.iload 6, 2) := by decide +kernel
theorem dX1_mostLeft_67 : decode cX1_mostLeft 67 = .ok (.invokestatic 93, 3) := by decide +kernel
theorem dX1_mostLeft_70 : decode cX1_mostLeft 70 = .ok (.iconst 1, 1) := by decide +kernel
theorem dX1_mostLeft_71 : decode cX1_mostLeft 71 = .ok (.iadd, 1) := by decide +kernel
theorem dX1_mostLeft_72 : decode cX1_mostLeft 72 = .ok (.istore 7, 2) := by decide +kernel
theorem dX1_mostLeft_74 : decode cX1_mostLeft 74 = .ok (.aload_n 0, 1) := by decide +kernel
theorem dX1_mostLeft_75 : decode cX1_mostLeft 75 = .ok (.getfield 33, 3) := by decide +kernel
theorem dX1_mostLeft_78 : decode cX1_mostLeft 78 = .ok (.iload 7, 2) := by decide +kernel
theorem dX1_mostLeft_80 : decode cX1_mostLeft 80 = .ok (.invokestatic 93, 3) := by decide +kernel
theorem dX1_mostLeft_83 : decode cX1_mostLeft 83 = .ok (.iload 4, 2) := by decide +kernel
theorem dX1_mostLeft_85 : decode cX1_mostLeft 85 = .ok (.aload_n 0, 1) := by decide +kernel
theorem dX1_mostLeft_86 : decode cX1_mostLeft 86 = .ok (.getfield 30, 3) := by decide +kernel
theorem dX1_mostLeft_89 : decode cX1_mostLeft 89 = .ok (.iload_n 1, 1) := by decide +kernel
theorem dX1_mostLeft_90 : decode cX1_mostLeft 90 = .ok (.aload_n 0, 1) := by decide +kernel
theorem dX1_mostLeft_91 : decode cX1_mostLeft 91 = .ok (.getfield 9, 3) := by decide +kernel
theorem dX1_mostLeft_94 : decode cX1_mostLeft 94 = .ok (.iload 6, 2) := by decide +kernel
theorem dX1_mostLeft_96 : decode cX1_mostLeft 96 = .ok (.invokestatic 93, 3) := by decide +kernel
theorem dX1_mostLeft_99 : decode cX1_mostLeft 99 = .ok (.invokestatic 136, 3) := by decide +kernel
theorem dX1_mostLeft_102 : decode cX1_mostLeft 102 = .ok (.invokestatic 93, 3) := by decide +kernel
theorem dX1_mostLeft_105 : decode cX1_mostLeft 105 = .ok (.imul, 1) := by decide +kernel
theorem dX1_mostLeft_106 : decode cX1_mostLeft 106 = .ok (.iadd, 1) := by decide +kernel
theorem dX1_mostLeft_107 : decode cX1_mostLeft 107 = .ok (.istore 8, 2) := by decide +kernel
theorem dX1_mostLeft_109 : decode cX1_mostLeft 109 = .ok (.aload_n 0, 1) := by decide +kernel
theorem dX1_mostLeft_110 : decode cX1_mostLeft 110 = .ok (.getfield 33, 3) := by decide +kernel
theorem dX1_mostLeft_113 : decode cX1_mostLeft 113 = .ok (.iload 7, 2) := by decide +kernel
theorem dX1_mostLeft_115 : decode cX1_mostLeft 115 = .ok (.iload 8, 2) := by decide +kernel
theorem dX1_mostLeft_117 : decode cX1_mostLeft 117 = .ok (.invokestatic 64, 3) := by decide +kernel
theorem dX1_mostLeft_120 : decode cX1_mostLeft 120 = .ok (.iload_n 2, 1) := by decide +kernel
theorem dX1_mostLeft_121 : decode cX1_mostLeft 121 = .ok (.iload 8, 2) := by decide +kernel
theorem dX1_mostLeft_123 : decode cX1_mostLeft 123 = .ok (.invokestatic 130, 3) := by decide +kernel
theorem dX1_mostLeft_126 : decode cX1_mostLeft 126 = .ok (.istore_n 2, 1) := by decide +kernel
theorem dX1_mostLeft_127 : decode cX1_mostLeft 127 = .ok (.iinc 5 1, 3) := by decide +kernel
theorem dX1_mostLeft_130 : decode cX1_mostLeft 130 = .ok (.goto (-94), 3) := by decide +kernel
theorem dX1_mostLeft_133 : decode cX1_mostLeft 133 = .ok (.iinc 3 1, 3) := by decide +kernel
theorem dX1_mostLeft_136 : decode cX1_mostLeft 136 = .ok (.goto (-124), 3) := by decide +kernel
theorem dX1_mostLeft_139 : decode cX1_mostLeft 139 = .ok (.iload_n 2, 1) := by decide +kernel
theorem dX1_mostLeft_140 : decode cX1_mostLeft 140 = .ok (.ireturn, 1) := by decide +kernel
set_option maxRecDepth 20000 in
theorem ggX1_canBeWord_X1_wordPlace : GoodIn wsX1_canBeWord wsX1_wordPlace := goodIn_r _ [7] (by decide +kernel) (by decide +kernel)
set_option maxRecDepth 20000 in
theorem gX1_canBeWord_X1_wordPlace : GoodIn wsX1_canBeWord (va_wsS RX1 56 yX1_wordPlace wsX1_wordPlace) := goodIn_app (goodIn_of _ (by decide +kernel)) ggX1_canBeWord_X1_wordPlace
set_option maxRecDepth 20000 in
theorem ggX1_canBeWord_X4_at : GoodIn wsX1_canBeWord wsX4_at := goodIn_r _ [10] (by decide +kernel) (by decide +kernel)
set_option maxRecDepth 20000 in
theorem gX1_canBeWord_X4_at_n93 : GoodIn wsX1_canBeWord (wsX4_at) := ggX1_canBeWord_X4_at
set_option maxRecDepth 20000 in
theorem ggX1_canBeWord_X3_allows : GoodIn wsX1_canBeWord wsX3_allows := goodIn_r _ [15, 16, 17, 18, 8, 9, 10, 29, 30, 31, 32, 33, 34, 35, 36, 37, 38, 39, 40] (by decide +kernel) (by decide +kernel)
set_option maxRecDepth 20000 in
theorem gX1_canBeWord_X3_allows : GoodIn wsX1_canBeWord (wsV RX1 139 RX3 yX3_allows wsX3_allows) := goodIn_app (goodIn_of _ (by decide +kernel)) ggX1_canBeWord_X3_allows
theorem dX1_canBeWord_0 : decode cX1_canBeWord 0 = .ok (.iload_n 3, 1) := by decide +kernel
theorem dX1_canBeWord_1 : decode cX1_canBeWord 1 = .ok (.iload_n 2, 1) := by decide +kernel
theorem dX1_canBeWord_2 : decode cX1_canBeWord 2 = .ok (.invokestatic 56, 3) := by decide +kernel
theorem dX1_canBeWord_5 : decode cX1_canBeWord 5 = .ok (.istore 4, 2) := by decide +kernel
theorem dX1_canBeWord_7 : decode cX1_canBeWord 7 = .ok (.aload_n 0, 1) := by decide +kernel
theorem dX1_canBeWord_8 : decode cX1_canBeWord 8 = .ok (.getfield 9, 3) := by decide +kernel
theorem dX1_canBeWord_11 : decode cX1_canBeWord 11 = .ok (.iload 4, 2) := by decide +kernel
theorem dX1_canBeWord_13 : decode cX1_canBeWord 13 = .ok (.invokestatic 93, 3) := by decide +kernel
theorem dX1_canBeWord_16 : decode cX1_canBeWord 16 = .ok (.bipush (-2), 2) := by decide +kernel
theorem dX1_canBeWord_18 : decode cX1_canBeWord 18 = .ok (.if_icmp .eq 27, 3) := by decide +kernel
theorem dX1_canBeWord_21 : decode cX1_canBeWord 21 = .ok (.aload_n 0, 1) := by decide +kernel
theorem dX1_canBeWord_22 : decode cX1_canBeWord 22 = .ok (.getfield 40, 3) := by decide +kernel
theorem dX1_canBeWord_25 : decode cX1_canBeWord 25 = .ok (.iload_n 1, 1) := by decide +kernel
theorem dX1_canBeWord_26 : decode cX1_canBeWord 26 = .ok (.aload_n 0, 1) := by decide +kernel
theorem dX1_canBeWord_27 : decode cX1_canBeWord 27 = .ok (.getfield 15, 3) := by decide +kernel
theorem dX1_canBeWord_30 : decode cX1_canBeWord 30 = .ok (.iload 4, 2) := by decide +kernel
theorem dX1_canBeWord_32 : decode cX1_canBeWord 32 = .ok (.invokestatic 93, 3) := by decide +kernel
theorem dX1_canBeWord_35 : decode cX1_canBeWord 35 = .ok (.invokevirtual 139, 3) := by decide +kernel
theorem dX1_canBeWord_38 : decode cX1_canBeWord 38 = .ok (.ifCond .eq 7, 3) := by decide +kernel
theorem dX1_canBeWord_41 : decode cX1_canBeWord 41 = .ok (.iconst 1, 1) := by decide +kernel
theorem dX1_canBeWord_42 : decode cX1_canBeWord 42 = .ok (.goto 4, 3) := by decide +kernel
theorem dX1_canBeWord_45 : decode cX1_canBeWord 45 = .ok (.iconst 0, 1) := by decide +kernel
theorem dX1_canBeWord_46 : decode cX1_canBeWord 46 = .ok (.ireturn, 1) := by decide +kernel
theorem dX1_rowPlace_0 : decode cX1_rowPlace 0 = .ok (.iload_n 0, 1) := by decide +kernel
theorem dX1_rowPlace_1 : decode cX1_rowPlace 1 = .ok (.bipush 7, 2) := by decide +kernel
theorem dX1_rowPlace_3 : decode cX1_rowPlace 3 = .ok (.imul, 1) := by decide +kernel
theorem dX1_rowPlace_4 : decode cX1_rowPlace 4 = .ok (.iload_n 1, 1) := by decide +kernel
theorem dX1_rowPlace_5 : decode cX1_rowPlace 5 = .ok (.iadd, 1) := by decide +kernel
theorem dX1_rowPlace_6 : decode cX1_rowPlace 6 = .ok (.iconst 1, 1) := by decide +kernel
theorem dX1_rowPlace_7 : decode cX1_rowPlace 7 = .ok (.iadd, 1) := by decide +kernel
theorem dX1_rowPlace_8 : decode cX1_rowPlace 8 = .ok (.ireturn, 1) := by decide +kernel
theorem dX2_init_0 : decode cX2_init 0 = .ok (.aload_n 0, 1) := by decide +kernel
theorem dX2_init_1 : decode cX2_init 1 = .ok (.invokespecial 3, 3) := by decide +kernel
theorem dX2_init_4 : decode cX2_init 4 = .ok (.aload_n 0, 1) := by decide +kernel
theorem dX2_init_5 : decode cX2_init 5 = .ok (.bipush 18, 2) := by decide +kernel
theorem dX2_init_7 : decode cX2_init 7 = .ok (.newarray .int, 2) := by decide +kernel
theorem dX2_init_9 : decode cX2_init 9 = .ok (.putfield 9, 3) := by decide +kernel
theorem dX2_init_12 : decode cX2_init 12 = .ok (.return_, 1) := by decide +kernel
set_option maxRecDepth 20000 in
theorem ggX2_append_X4_put : GoodIn wsX2_append wsX4_put := goodIn_r _ [5] (by decide +kernel) (by decide +kernel)
set_option maxRecDepth 20000 in
theorem gX2_append_X4_put_n19 : GoodIn wsX2_append (wsX4_put) := ggX2_append_X4_put
theorem dX2_append_0 : decode cX2_append 0 = .ok (.aload_n 0, 1) := by decide +kernel
theorem dX2_append_1 : decode cX2_append 1 = .ok (.getfield 15, 3) := by decide +kernel
theorem dX2_append_4 : decode cX2_append 4 = .ok (.bipush 18, 2) := by decide +kernel
theorem dX2_append_6 : decode cX2_append 6 = .ok (.if_icmp .ge 25, 3) := by decide +kernel
theorem dX2_append_9 : decode cX2_append 9 = .ok (.aload_n 0, 1) := by decide +kernel
theorem dX2_append_10 : decode cX2_append 10 = .ok (.getfield 9, 3) := by decide +kernel
theorem dX2_append_13 : decode cX2_append 13 = .ok (.aload_n 0, 1) := by decide +kernel
theorem dX2_append_14 : decode cX2_append 14 = .ok (.getfield 15, 3) := by decide +kernel
theorem dX2_append_17 : decode cX2_append 17 = .ok (.iload_n 1, 1) := by decide +kernel
theorem dX2_append_18 : decode cX2_append 18 = .ok (.invokestatic 19, 3) := by decide +kernel
theorem dX2_append_21 : decode cX2_append 21 = .ok (.aload_n 0, 1) := by decide +kernel
theorem dX2_append_22 : decode cX2_append 22 = .ok (.dup, 1) := by decide +kernel
theorem dX2_append_23 : decode cX2_append 23 = .ok (.getfield 15, 3) := by decide +kernel
theorem dX2_append_26 : decode cX2_append 26 = .ok (.iconst 1, 1) := by decide +kernel
theorem dX2_append_27 : decode cX2_append 27 = .ok (.iadd, 1) := by decide +kernel
theorem dX2_append_28 : decode cX2_append 28 = .ok (.putfield 15, 3) := by decide +kernel
theorem dX2_append_31 : decode cX2_append 31 = .ok (.return_, 1) := by decide +kernel
theorem dX2_wipe_0 : decode cX2_wipe 0 = .ok (.aload_n 0, 1) := by decide +kernel
theorem dX2_wipe_1 : decode cX2_wipe 1 = .ok (.iconst 0, 1) := by decide +kernel
theorem dX2_wipe_2 : decode cX2_wipe 2 = .ok (.putfield 15, 3) := by decide +kernel
theorem dX2_wipe_5 : decode cX2_wipe 5 = .ok (.return_, 1) := by decide +kernel
set_option maxRecDepth 20000 in
theorem ggX2_codeAt_X4_at : GoodIn wsX2_codeAt wsX4_at := goodIn_r _ [5] (by decide +kernel) (by decide +kernel)
set_option maxRecDepth 20000 in
theorem gX2_codeAt_X4_at_n23 : GoodIn wsX2_codeAt (wsX4_at) := ggX2_codeAt_X4_at
theorem dX2_codeAt_0 : decode cX2_codeAt 0 = .ok (.iload_n 1, 1) := by decide +kernel
theorem dX2_codeAt_1 : decode cX2_codeAt 1 = .ok (.ifCond .lt 22, 3) := by decide +kernel
theorem dX2_codeAt_4 : decode cX2_codeAt 4 = .ok (.iload_n 1, 1) := by decide +kernel
theorem dX2_codeAt_5 : decode cX2_codeAt 5 = .ok (.aload_n 0, 1) := by decide +kernel
theorem dX2_codeAt_6 : decode cX2_codeAt 6 = .ok (.getfield 15, 3) := by decide +kernel
theorem dX2_codeAt_9 : decode cX2_codeAt 9 = .ok (.if_icmp .ge 14, 3) := by decide +kernel
theorem dX2_codeAt_12 : decode cX2_codeAt 12 = .ok (.aload_n 0, 1) := by decide +kernel
theorem dX2_codeAt_13 : decode cX2_codeAt 13 = .ok (.getfield 9, 3) := by decide +kernel
theorem dX2_codeAt_16 : decode cX2_codeAt 16 = .ok (.iload_n 1, 1) := by decide +kernel
theorem dX2_codeAt_17 : decode cX2_codeAt 17 = .ok (.invokestatic 23, 3) := by decide +kernel
theorem dX2_codeAt_20 : decode cX2_codeAt 20 = .ok (.goto 4, 3) := by decide +kernel
theorem dX2_codeAt_23 : decode cX2_codeAt 23 = .ok (.iconst 0, 1) := by decide +kernel
theorem dX2_codeAt_24 : decode cX2_codeAt 24 = .ok (.ireturn, 1) := by decide +kernel
set_option maxRecDepth 20000 in
theorem ggX2_firstFault_X2_codeAt : GoodIn wsX2_firstFault wsX2_codeAt := goodIn_r _ [6, 1, 7, 8, 9, 10, 20, 21] (by decide +kernel) (by decide +kernel)
set_option maxRecDepth 20000 in
theorem gX2_firstFault_X2_codeAt : GoodIn wsX2_firstFault (wsV RX2 27 RX2 yX2_codeAt wsX2_codeAt) := goodIn_app (goodIn_of _ (by decide +kernel)) ggX2_firstFault_X2_codeAt
set_option maxRecDepth 20000 in
theorem ggX2_firstFault_X2_dueBehind : GoodIn wsX2_firstFault wsX2_dueBehind := goodIn_r _ [13, 14, 15, 5, 16, 17, 18, 19] (by decide +kernel) (by decide +kernel)
set_option maxRecDepth 20000 in
theorem gX2_firstFault_X2_dueBehind : GoodIn wsX2_firstFault (va_wsS RX2 31 yX2_dueBehind wsX2_dueBehind) := goodIn_app (goodIn_of _ (by decide +kernel)) ggX2_firstFault_X2_dueBehind
theorem dX2_firstFault_0 : decode cX2_firstFault 0 = .ok (.iconst 0, 1) := by decide +kernel
theorem dX2_firstFault_1 : decode cX2_firstFault 1 = .ok (.istore_n 1, 1) := by decide +kernel
theorem dX2_firstFault_2 : decode cX2_firstFault 2 = .ok (.iconst 0, 1) := by decide +kernel
theorem dX2_firstFault_3 : decode cX2_firstFault 3 = .ok (.istore_n 2, 1) := by decide +kernel
theorem dX2_firstFault_4 : decode cX2_firstFault 4 = .ok (.iconst 0, 1) := by decide +kernel
theorem dX2_firstFault_5 : decode cX2_firstFault 5 = .ok (.istore_n 3, 1) := by decide +kernel
theorem dX2_firstFault_6 : decode cX2_firstFault 6 = .ok (.iload_n 3, 1) := by decide +kernel
theorem dX2_firstFault_7 : decode cX2_firstFault 7 = .ok (.aload_n 0, 1) := by decide +kernel
theorem dX2_firstFault_8 : decode cX2_firstFault 8 = .ok (.getfield 15, 3) := by decide +kernel
theorem dX2_firstFault_11 : decode cX2_firstFault 11 = .ok (.if_icmp .ge 38, 3) := by decide +kernel
theorem dX2_firstFault_14 : decode cX2_firstFault 14 = .ok (.aload_n 0, 1) := by decide +kernel
theorem dX2_firstFault_15 : decode cX2_firstFault 15 = .ok (.iload_n 3, 1) := by decide +kernel
theorem dX2_firstFault_16 : decode cX2_firstFault 16 = .ok (.invokevirtual 27, 3) := by decide +kernel
theorem dX2_firstFault_19 : decode cX2_firstFault 19 = .ok (.istore 4, 2) := by decide +kernel
theorem dX2_firstFault_21 : decode cX2_firstFault 21 = .ok (.iload_n 1, 1) := by decide +kernel
theorem dX2_firstFault_22 : decode cX2_firstFault 22 = .ok (.ifCond .ne 6, 3) := by decide +kernel
theorem dX2_firstFault_25 : decode cX2_firstFault 25 = .ok (.iinc 2 1, 3) := by decide +kernel
theorem dX2_firstFault_28 : decode cX2_firstFault 28 = .ok (.iload_n 1, 1) := by decide +kernel
theorem dX2_firstFault_29 : decode cX2_firstFault 29 = .ok (.iload 4, 2) := by decide +kernel
theorem dX2_firstFault_31 : decode cX2_firstFault 31 = .ok (.iload_n 2, 1) := by decide +kernel
theorem dX2_firstFault_32 : decode cX2_firstFault 32 = .ok (.invokestatic 31, 3) := by decide +kernel
theorem dX2_firstFault_35 : decode cX2_firstFault 35 = .ok (.istore_n 1, 1) := by decide +kernel
theorem dX2_firstFault_36 : decode cX2_firstFault 36 = .ok (.iload_n 1, 1) := by decide +kernel
theorem dX2_firstFault_37 : decode cX2_firstFault 37 = .ok (.iconst 5, 1) := by decide +kernel
theorem dX2_firstFault_38 : decode cX2_firstFault 38 = .ok (.if_icmp .ne 5, 3) := by decide +kernel
theorem dX2_firstFault_41 : decode cX2_firstFault 41 = .ok (.iload_n 3, 1) := by decide +kernel
theorem dX2_firstFault_42 : decode cX2_firstFault 42 = .ok (.ireturn, 1) := by decide +kernel
theorem dX2_firstFault_43 : decode cX2_firstFault 43 = .ok (.iinc 3 1, 3) := by decide +kernel
theorem dX2_firstFault_46 : decode cX2_firstFault 46 = .ok (.goto (-40), 3) := by decide +kernel
theorem dX2_firstFault_49 : decode cX2_firstFault 49 = .ok (.aload_n 0, 1) := by decide +kernel
theorem dX2_firstFault_50 : decode cX2_firstFault 50 = .ok (.getfield 15, 3) := by decide +kernel
theorem dX2_firstFault_53 : decode cX2_firstFault 53 = .ok (.ireturn, 1) := by decide +kernel
set_option maxRecDepth 20000 in
theorem ggX2_isWhole_X2_codeAt : GoodIn wsX2_isWhole wsX2_codeAt := goodIn_r _ [6, 1, 7, 8, 9, 10, 24, 25] (by decide +kernel) (by decide +kernel)
set_option maxRecDepth 20000 in
theorem gX2_isWhole_X2_codeAt : GoodIn wsX2_isWhole (wsV RX2 27 RX2 yX2_codeAt wsX2_codeAt) := goodIn_app (goodIn_of _ (by decide +kernel)) ggX2_isWhole_X2_codeAt
set_option maxRecDepth 20000 in
theorem ggX2_isWhole_X2_firstFault : GoodIn wsX2_isWhole wsX2_firstFault := goodIn_r _ [14, 1, 2, 3, 4, 5, 6, 7, 8, 9, 10, 15, 16, 17, 18, 19, 20, 21, 22, 23, 24, 25] (by decide +kernel) (by decide +kernel)
set_option maxRecDepth 20000 in
theorem gX2_isWhole_X2_firstFault : GoodIn wsX2_isWhole (wsV RX2 35 RX2 yX2_firstFault wsX2_firstFault) := goodIn_app (goodIn_of _ (by decide +kernel)) ggX2_isWhole_X2_firstFault
theorem dX2_isWhole_0 : decode cX2_isWhole 0 = .ok (.aload_n 0, 1) := by decide +kernel
theorem dX2_isWhole_1 : decode cX2_isWhole 1 = .ok (.getfield 15, 3) := by decide +kernel
theorem dX2_isWhole_4 : decode cX2_isWhole 4 = .ok (.iconst 2, 1) := by decide +kernel
theorem dX2_isWhole_5 : decode cX2_isWhole 5 = .ok (.if_icmp .lt 33, 3) := by decide +kernel
theorem dX2_isWhole_8 : decode cX2_isWhole 8 = .ok (.aload_n 0, 1) := by decide +kernel
theorem dX2_isWhole_9 : decode cX2_isWhole 9 = .ok (.aload_n 0, 1) := by decide +kernel
theorem dX2_isWhole_10 : decode cX2_isWhole 10 = .ok (.getfield 15, 3) := by decide +kernel
theorem dX2_isWhole_13 : decode cX2_isWhole 13 = .ok (.iconst 2, 1) := by decide +kernel
theorem dX2_isWhole_14 : decode cX2_isWhole 14 = .ok (.isub, 1) := by decide +kernel
theorem dX2_isWhole_15 : decode cX2_isWhole 15 = .ok (.invokevirtual 27, 3) := by decide +kernel
theorem dX2_isWhole_18 : decode cX2_isWhole 18 = .ok (.bipush 59, 2) := by decide +kernel
theorem dX2_isWhole_20 : decode cX2_isWhole 20 = .ok (.if_icmp .ne 18, 3) := by decide +kernel
theorem dX2_isWhole_23 : decode cX2_isWhole 23 = .ok (.aload_n 0, 1) := by decide +kernel
theorem dX2_isWhole_24 : decode cX2_isWhole 24 = .ok (.invokevirtual 35, 3) := by decide +kernel
theorem dX2_isWhole_27 : decode cX2_isWhole 27 = .ok (.aload_n 0, 1) := by decide +kernel
theorem dX2_isWhole_28 : decode cX2_isWhole 28 = .ok (.getfield 15, 3) := by decide +kernel
theorem dX2_isWhole_31 : decode cX2_isWhole 31 = .ok (.if_icmp .ne 7, 3) := by decide +kernel
theorem dX2_isWhole_34 : decode cX2_isWhole 34 = .ok (.iconst 1, 1) := by decide +kernel
theorem dX2_isWhole_35 : decode cX2_isWhole 35 = .ok (.goto 4, 3) := by decide +kernel
theorem dX2_isWhole_38 : decode cX2_isWhole 38 = .ok (.iconst 0, 1) := by decide +kernel
theorem dX2_isWhole_39 : decode cX2_isWhole 39 = .ok (.ireturn, 1) := by decide +kernel
set_option maxRecDepth 20000 in
theorem ggX2_dueBehind_X2_kindOf : GoodIn wsX2_dueBehind wsX2_kindOf := goodIn_r _ [4] (by decide +kernel) (by decide +kernel)
set_option maxRecDepth 20000 in
theorem gX2_dueBehind_X2_kindOf : GoodIn wsX2_dueBehind (va_wsS RX2 39 yX2_kindOf wsX2_kindOf) := goodIn_app (goodIn_of _ (by decide +kernel)) ggX2_dueBehind_X2_kindOf
set_option maxRecDepth 20000 in
theorem ggX2_dueBehind_X2_dueBehindMark : GoodIn wsX2_dueBehind wsX2_dueBehindMark := goodIn_r _ [7] (by decide +kernel) (by decide +kernel)
set_option maxRecDepth 20000 in
theorem gX2_dueBehind_X2_dueBehindMark : GoodIn wsX2_dueBehind (va_wsS RX2 42 yX2_dueBehindMark wsX2_dueBehindMark) := goodIn_app (goodIn_of _ (by decide +kernel)) ggX2_dueBehind_X2_dueBehindMark
theorem dX2_dueBehind_0 : decode cX2_dueBehind 0 = .ok (.iload_n 0, 1) := by decide +kernel
theorem dX2_dueBehind_1 : decode cX2_dueBehind 1 = .ok (.tableswitch 87 0 3 #[31, 45, 63, 69], 31) := by decide +kernel
theorem dX2_dueBehind_32 : decode cX2_dueBehind 32 = .ok (.iload_n 1, 1) := by decide +kernel
theorem dX2_dueBehind_33 : decode cX2_dueBehind 33 = .ok (.invokestatic 39, 3) := by decide +kernel
theorem dX2_dueBehind_36 : decode cX2_dueBehind 36 = .ok (.iconst (-1), 1) := by decide +kernel
theorem dX2_dueBehind_37 : decode cX2_dueBehind 37 = .ok (.if_icmp .eq 7, 3) := by decide +kernel
theorem dX2_dueBehind_40 : decode cX2_dueBehind 40 = .ok (.iconst 1, 1) := by decide +kernel
theorem dX2_dueBehind_41 : decode cX2_dueBehind 41 = .ok (.goto 4, 3) := by decide +kernel
theorem dX2_dueBehind_44 : decode cX2_dueBehind 44 = .ok (.iconst 5, 1) := by decide +kernel
theorem dX2_dueBehind_45 : decode cX2_dueBehind 45 = .ok (.ireturn, 1) := by decide +kernel
theorem dX2_dueBehind_46 : decode cX2_dueBehind 46 = .ok (.iload_n 1, 1) := by decide +kernel
theorem dX2_dueBehind_47 : decode cX2_dueBehind 47 = .ok (.bipush 48, 2) := by decide +kernel
theorem dX2_dueBehind_49 : decode cX2_dueBehind 49 = .ok (.if_icmp .eq 9, 3) := by decide +kernel
theorem dX2_dueBehind_52 : decode cX2_dueBehind 52 = .ok (.iload_n 1, 1) := by decide +kernel
theorem dX2_dueBehind_53 : decode cX2_dueBehind 53 = .ok (.bipush 49, 2) := by decide +kernel
theorem dX2_dueBehind_55 : decode cX2_dueBehind 55 = .ok (.if_icmp .ne 7, 3) := by decide +kernel
theorem dX2_dueBehind_58 : decode cX2_dueBehind 58 = .ok (.iconst 2, 1) := by decide +kernel
theorem dX2_dueBehind_59 : decode cX2_dueBehind 59 = .ok (.goto 4, 3) := by decide +kernel
theorem dX2_dueBehind_62 : decode cX2_dueBehind 62 = .ok (.iconst 5, 1) := by decide +kernel
theorem dX2_dueBehind_63 : decode cX2_dueBehind 63 = .ok (.ireturn, 1) := by decide +kernel
theorem dX2_dueBehind_64 : decode cX2_dueBehind 64 = .ok (.iload_n 1, 1) := by decide +kernel
theorem dX2_dueBehind_65 : decode cX2_dueBehind 65 = .ok (.iload_n 2, 1) := by decide +kernel
theorem dX2_dueBehind_66 : decode cX2_dueBehind 66 = .ok (.invokestatic 42, 3) := by decide +kernel
theorem dX2_dueBehind_69 : decode cX2_dueBehind 69 = .ok (.ireturn, 1) := by decide +kernel
theorem dX2_dueBehind_70 : decode cX2_dueBehind 70 = .ok (.iload_n 1, 1) := by decide +kernel
theorem dX2_dueBehind_71 : decode cX2_dueBehind 71 = .ok (.bipush 49, 2) := by decide +kernel
theorem dX2_dueBehind_73 : decode cX2_dueBehind 73 = .ok (.if_icmp .lt 13, 3) := by decide +kernel
theorem dX2_dueBehind_76 : decode cX2_dueBehind 76 = .ok (.iload_n 1, 1) := by decide +kernel
theorem dX2_dueBehind_77 : decode cX2_dueBehind 77 = .ok (.bipush 57, 2) := by decide +kernel
theorem dX2_dueBehind_79 : decode cX2_dueBehind 79 = .ok (.if_icmp .gt 7, 3) := by decide +kernel
theorem dX2_dueBehind_82 : decode cX2_dueBehind 82 = .ok (.iconst 4, 1) := by decide +kernel
theorem dX2_dueBehind_83 : decode cX2_dueBehind 83 = .ok (.goto 4, 3) := by decide +kernel
theorem dX2_dueBehind_86 : decode cX2_dueBehind 86 = .ok (.iconst 5, 1) := by decide +kernel
theorem dX2_dueBehind_87 : decode cX2_dueBehind 87 = .ok (.ireturn, 1) := by decide +kernel
theorem dX2_dueBehind_88 : decode cX2_dueBehind 88 = .ok (.iconst 5, 1) := by decide +kernel
theorem dX2_dueBehind_89 : decode cX2_dueBehind 89 = .ok (.ireturn, 1) := by decide +kernel
theorem dX2_dueBehindMark_0 : decode cX2_dueBehindMark 0 = .ok (.iload_n 0, 1) := by decide +kernel
theorem dX2_dueBehindMark_1 : decode cX2_dueBehindMark 1 = .ok (.bipush 44, 2) := by decide +kernel
theorem dX2_dueBehindMark_3 : decode cX2_dueBehindMark 3 = .ok (.if_icmp .ne 10, 3) := by decide +kernel
theorem dX2_dueBehindMark_6 : decode cX2_dueBehindMark 6 = .ok (.iload_n 1, 1) := by decide +kernel
theorem dX2_dueBehindMark_7 : decode cX2_dueBehindMark 7 = .ok (.iconst 5, 1) := by decide +kernel
theorem dX2_dueBehindMark_8 : decode cX2_dueBehindMark 8 = .ok (.if_icmp .ge 5, 3) := by decide +kernel
theorem dX2_dueBehindMark_11 : decode cX2_dueBehindMark 11 = .ok (.iconst 0, 1) := by decide +kernel
theorem dX2_dueBehindMark_12 : decode cX2_dueBehindMark 12 = .ok (.ireturn, 1) := by decide +kernel
theorem dX2_dueBehindMark_13 : decode cX2_dueBehindMark 13 = .ok (.iload_n 0, 1) := by decide +kernel
theorem dX2_dueBehindMark_14 : decode cX2_dueBehindMark 14 = .ok (.bipush 59, 2) := by decide +kernel
theorem dX2_dueBehindMark_16 : decode cX2_dueBehindMark 16 = .ok (.if_icmp .ne 12, 3) := by decide +kernel
theorem dX2_dueBehindMark_19 : decode cX2_dueBehindMark 19 = .ok (.iload_n 1, 1) := by decide +kernel
theorem dX2_dueBehindMark_20 : decode cX2_dueBehindMark 20 = .ok (.iconst 2, 1) := by decide +kernel
theorem dX2_dueBehindMark_21 : decode cX2_dueBehindMark 21 = .ok (.if_icmp .lt 7, 3) := by decide +kernel
theorem dX2_dueBehindMark_24 : decode cX2_dueBehindMark 24 = .ok (.iconst 3, 1) := by decide +kernel
theorem dX2_dueBehindMark_25 : decode cX2_dueBehindMark 25 = .ok (.goto 4, 3) := by decide +kernel
theorem dX2_dueBehindMark_28 : decode cX2_dueBehindMark 28 = .ok (.iconst 5, 1) := by decide +kernel
theorem dX2_dueBehindMark_29 : decode cX2_dueBehindMark 29 = .ok (.ireturn, 1) := by decide +kernel
theorem dX2_kindOf_0 : decode cX2_kindOf 0 = .ok (.iload_n 0, 1) := by decide +kernel
theorem dX2_kindOf_1 : decode cX2_kindOf 1 = .ok (.lookupswitch 61 #[(101, 55), (102, 57), (109, 59), (115, 51), (119, 53)], 51) := by decide +kernel
theorem dX2_kindOf_52 : decode cX2_kindOf 52 = .ok (.iconst 0, 1) := by decide +kernel
theorem dX2_kindOf_53 : decode cX2_kindOf 53 = .ok (.ireturn, 1) := by decide +kernel
theorem dX2_kindOf_54 : decode cX2_kindOf 54 = .ok (.iconst 1, 1) := by decide +kernel
theorem dX2_kindOf_55 : decode cX2_kindOf 55 = .ok (.ireturn, 1) := by decide +kernel
theorem dX2_kindOf_56 : decode cX2_kindOf 56 = .ok (.iconst 2, 1) := by decide +kernel
theorem dX2_kindOf_57 : decode cX2_kindOf 57 = .ok (.ireturn, 1) := by decide +kernel
theorem dX2_kindOf_58 : decode cX2_kindOf 58 = .ok (.iconst 3, 1) := by decide +kernel
theorem dX2_kindOf_59 : decode cX2_kindOf 59 = .ok (.ireturn, 1) := by decide +kernel
theorem dX2_kindOf_60 : decode cX2_kindOf 60 = .ok (.iconst 4, 1) := by decide +kernel
theorem dX2_kindOf_61 : decode cX2_kindOf 61 = .ok (.ireturn, 1) := by decide +kernel
theorem dX2_kindOf_62 : decode cX2_kindOf 62 = .ok (.iconst (-1), 1) := by decide +kernel
theorem dX2_kindOf_63 : decode cX2_kindOf 63 = .ok (.ireturn, 1) := by decide +kernel
end
section
theorem dX3_init_0 : decode cX3_init 0 = .ok (.aload_n 0, 1) := by decide +kernel
theorem dX3_init_1 : decode cX3_init 1 = .ok (.invokespecial 3, 3) := by decide +kernel
theorem dX3_init_4 : decode cX3_init 4 = .ok (.aload_n 0, 1) := by decide +kernel
theorem dX3_init_5 : decode cX3_init 5 = .ok (.iconst (-1), 1) := by decide +kernel
theorem dX3_init_6 : decode cX3_init 6 = .ok (.putfield 9, 3) := by decide +kernel
theorem dX3_init_9 : decode cX3_init 9 = .ok (.aload_n 0, 1) := by decide +kernel
theorem dX3_init_10 : decode cX3_init 10 = .ok (.iconst (-1), 1) := by decide +kernel
theorem dX3_init_11 : decode cX3_init 11 = .ok (.putfield 15, 3) := by decide +kernel
theorem dX3_init_14 : decode cX3_init 14 = .ok (.aload_n 0, 1) := by decide +kernel
theorem dX3_init_15 : decode cX3_init 15 = .ok (.iconst 5, 1) := by decide +kernel
theorem dX3_init_16 : decode cX3_init 16 = .ok (.newarray .int, 2) := by decide +kernel
theorem dX3_init_18 : decode cX3_init 18 = .ok (.putfield 18, 3) := by decide +kernel
theorem dX3_init_21 : decode cX3_init 21 = .ok (.aload_n 0, 1) := by decide +kernel
theorem dX3_init_22 : decode cX3_init 22 = .ok (.bipush 8, 2) := by decide +kernel
theorem dX3_init_24 : decode cX3_init 24 = .ok (.newarray .int, 2) := by decide +kernel
theorem dX3_init_26 : decode cX3_init 26 = .ok (.putfield 22, 3) := by decide +kernel
theorem dX3_init_29 : decode cX3_init 29 = .ok (.aload_n 0, 1) := by decide +kernel
theorem dX3_init_30 : decode cX3_init 30 = .ok (.bipush 8, 2) := by decide +kernel
theorem dX3_init_32 : decode cX3_init 32 = .ok (.newarray .int, 2) := by decide +kernel
theorem dX3_init_34 : decode cX3_init 34 = .ok (.putfield 25, 3) := by decide +kernel
theorem dX3_init_37 : decode cX3_init 37 = .ok (.return_, 1) := by decide +kernel
set_option maxRecDepth 20000 in
theorem ggX3_beginAll_X3_beginCase : GoodIn wsX3_beginAll wsX3_beginCase := goodIn_r _ [11, 12, 13, 14, 15, 19, 20, 21, 22, 23, 24, 25, 26, 27, 28, 29, 30] (by decide +kernel) (by decide +kernel)
set_option maxRecDepth 20000 in
theorem gX3_beginAll_X3_beginCase : GoodIn wsX3_beginAll (wsV RX3 28 RX3 yX3_beginCase wsX3_beginCase) := goodIn_app (goodIn_of _ (by decide +kernel)) ggX3_beginAll_X3_beginCase
set_option maxRecDepth 20000 in
theorem ggX3_beginAll_X4_fill : GoodIn wsX3_beginAll wsX4_fill := goodIn_r _ [18] (by decide +kernel) (by decide +kernel)
set_option maxRecDepth 20000 in
theorem gX3_beginAll_X4_fill_n46 : GoodIn wsX3_beginAll (wsX4_fill) := ggX3_beginAll_X4_fill
theorem dX3_beginAll_0 : decode cX3_beginAll 0 = .ok (.aload_n 0, 1) := by decide +kernel
theorem dX3_beginAll_1 : decode cX3_beginAll 1 = .ok (.invokevirtual 28, 3) := by decide +kernel
theorem dX3_beginAll_4 : decode cX3_beginAll 4 = .ok (.aload_n 0, 1) := by decide +kernel
theorem dX3_beginAll_5 : decode cX3_beginAll 5 = .ok (.iconst 0, 1) := by decide +kernel
theorem dX3_beginAll_6 : decode cX3_beginAll 6 = .ok (.putfield 31, 3) := by decide +kernel
theorem dX3_beginAll_9 : decode cX3_beginAll 9 = .ok (.aload_n 0, 1) := by decide +kernel
theorem dX3_beginAll_10 : decode cX3_beginAll 10 = .ok (.iconst 0, 1) := by decide +kernel
theorem dX3_beginAll_11 : decode cX3_beginAll 11 = .ok (.putfield 34, 3) := by decide +kernel
theorem dX3_beginAll_14 : decode cX3_beginAll 14 = .ok (.aload_n 0, 1) := by decide +kernel
theorem dX3_beginAll_15 : decode cX3_beginAll 15 = .ok (.iconst 0, 1) := by decide +kernel
theorem dX3_beginAll_16 : decode cX3_beginAll 16 = .ok (.putfield 37, 3) := by decide +kernel
theorem dX3_beginAll_19 : decode cX3_beginAll 19 = .ok (.aload_n 0, 1) := by decide +kernel
theorem dX3_beginAll_20 : decode cX3_beginAll 20 = .ok (.iconst 0, 1) := by decide +kernel
theorem dX3_beginAll_21 : decode cX3_beginAll 21 = .ok (.putfield 40, 3) := by decide +kernel
theorem dX3_beginAll_24 : decode cX3_beginAll 24 = .ok (.aload_n 0, 1) := by decide +kernel
theorem dX3_beginAll_25 : decode cX3_beginAll 25 = .ok (.iconst 0, 1) := by decide +kernel
theorem dX3_beginAll_26 : decode cX3_beginAll 26 = .ok (.putfield 43, 3) := by decide +kernel
theorem dX3_beginAll_29 : decode cX3_beginAll 29 = .ok (.aload_n 0, 1) := by decide +kernel
theorem dX3_beginAll_30 : decode cX3_beginAll 30 = .ok (.getfield 18, 3) := by decide +kernel
theorem dX3_beginAll_33 : decode cX3_beginAll 33 = .ok (.iconst 0, 1) := by decide +kernel
theorem dX3_beginAll_34 : decode cX3_beginAll 34 = .ok (.invokestatic 46, 3) := by decide +kernel
theorem dX3_beginAll_37 : decode cX3_beginAll 37 = .ok (.return_, 1) := by decide +kernel
theorem dX3_beginCase_0 : decode cX3_beginCase 0 = .ok (.aload_n 0, 1) := by decide +kernel
theorem dX3_beginCase_1 : decode cX3_beginCase 1 = .ok (.iconst (-1), 1) := by decide +kernel
theorem dX3_beginCase_2 : decode cX3_beginCase 2 = .ok (.putfield 9, 3) := by decide +kernel
theorem dX3_beginCase_5 : decode cX3_beginCase 5 = .ok (.aload_n 0, 1) := by decide +kernel
theorem dX3_beginCase_6 : decode cX3_beginCase 6 = .ok (.iconst (-1), 1) := by decide +kernel
theorem dX3_beginCase_7 : decode cX3_beginCase 7 = .ok (.putfield 15, 3) := by decide +kernel
theorem dX3_beginCase_10 : decode cX3_beginCase 10 = .ok (.aload_n 0, 1) := by decide +kernel
theorem dX3_beginCase_11 : decode cX3_beginCase 11 = .ok (.iconst 0, 1) := by decide +kernel
theorem dX3_beginCase_12 : decode cX3_beginCase 12 = .ok (.putfield 50, 3) := by decide +kernel
theorem dX3_beginCase_15 : decode cX3_beginCase 15 = .ok (.aload_n 0, 1) := by decide +kernel
theorem dX3_beginCase_16 : decode cX3_beginCase 16 = .ok (.iconst 0, 1) := by decide +kernel
theorem dX3_beginCase_17 : decode cX3_beginCase 17 = .ok (.putfield 53, 3) := by decide +kernel
theorem dX3_beginCase_20 : decode cX3_beginCase 20 = .ok (.return_, 1) := by decide +kernel
set_option maxRecDepth 20000 in
theorem ggX3_takeFrom_X4_copy : GoodIn wsX3_takeFrom wsX4_copy := goodIn_r _ [15, 16, 17, 14, 18] (by decide +kernel) (by decide +kernel)
set_option maxRecDepth 20000 in
theorem gX3_takeFrom_X4_copy_n56 : GoodIn wsX3_takeFrom (wsX4_copy) := ggX3_takeFrom_X4_copy
theorem dX3_takeFrom_0 : decode cX3_takeFrom 0 = .ok (.aload_n 1, 1) := by decide +kernel
theorem dX3_takeFrom_1 : decode cX3_takeFrom 1 = .ok (.ifnonnull 4, 3) := by decide +kernel
theorem dX3_takeFrom_4 : decode cX3_takeFrom 4 = .ok (.return_, 1) := by decide +kernel
theorem dX3_takeFrom_5 : decode cX3_takeFrom 5 = .ok (.aload_n 0, 1) := by decide +kernel
theorem dX3_takeFrom_6 : decode cX3_takeFrom 6 = .ok (.aload_n 1, 1) := by decide +kernel
theorem dX3_takeFrom_7 : decode cX3_takeFrom 7 = .ok (.getfield 9, 3) := by decide +kernel
theorem dX3_takeFrom_10 : decode cX3_takeFrom 10 = .ok (.putfield 9, 3) := by decide +kernel
theorem dX3_takeFrom_13 : decode cX3_takeFrom 13 = .ok (.aload_n 0, 1) := by decide +kernel
theorem dX3_takeFrom_14 : decode cX3_takeFrom 14 = .ok (.aload_n 1, 1) := by decide +kernel
theorem dX3_takeFrom_15 : decode cX3_takeFrom 15 = .ok (.getfield 15, 3) := by decide +kernel
theorem dX3_takeFrom_18 : decode cX3_takeFrom 18 = .ok (.putfield 15, 3) := by decide +kernel
theorem dX3_takeFrom_21 : decode cX3_takeFrom 21 = .ok (.aload_n 0, 1) := by decide +kernel
theorem dX3_takeFrom_22 : decode cX3_takeFrom 22 = .ok (.aload_n 1, 1) := by decide +kernel
theorem dX3_takeFrom_23 : decode cX3_takeFrom 23 = .ok (.getfield 50, 3) := by decide +kernel
theorem dX3_takeFrom_26 : decode cX3_takeFrom 26 = .ok (.putfield 50, 3) := by decide +kernel
theorem dX3_takeFrom_29 : decode cX3_takeFrom 29 = .ok (.aload_n 0, 1) := by decide +kernel
theorem dX3_takeFrom_30 : decode cX3_takeFrom 30 = .ok (.aload_n 1, 1) := by decide +kernel
theorem dX3_takeFrom_31 : decode cX3_takeFrom 31 = .ok (.getfield 53, 3) := by decide +kernel
theorem dX3_takeFrom_34 : decode cX3_takeFrom 34 = .ok (.putfield 53, 3) := by decide +kernel
theorem dX3_takeFrom_37 : decode cX3_takeFrom 37 = .ok (.aload_n 0, 1) := by decide +kernel
theorem dX3_takeFrom_38 : decode cX3_takeFrom 38 = .ok (.aload_n 1, 1) := by decide +kernel
theorem dX3_takeFrom_39 : decode cX3_takeFrom 39 = .ok (.getfield 31, 3) := by decide +kernel
theorem dX3_takeFrom_42 : decode cX3_takeFrom 42 = .ok (.putfield 31, 3) := by decide +kernel
theorem dX3_takeFrom_45 : decode cX3_takeFrom 45 = .ok (.aload_n 0, 1) := by decide +kernel
theorem dX3_takeFrom_46 : decode cX3_takeFrom 46 = .ok (.aload_n 1, 1) := by decide +kernel
theorem dX3_takeFrom_47 : decode cX3_takeFrom 47 = .ok (.getfield 34, 3) := by decide +kernel
theorem dX3_takeFrom_50 : decode cX3_takeFrom 50 = .ok (.putfield 34, 3) := by decide +kernel
theorem dX3_takeFrom_53 : decode cX3_takeFrom 53 = .ok (.aload_n 0, 1) := by decide +kernel
theorem dX3_takeFrom_54 : decode cX3_takeFrom 54 = .ok (.aload_n 1, 1) := by decide +kernel
theorem dX3_takeFrom_55 : decode cX3_takeFrom 55 = .ok (.getfield 37, 3) := by decide +kernel
theorem dX3_takeFrom_58 : decode cX3_takeFrom 58 = .ok (.putfield 37, 3) := by decide +kernel
theorem dX3_takeFrom_61 : decode cX3_takeFrom 61 = .ok (.aload_n 0, 1) := by decide +kernel
theorem dX3_takeFrom_62 : decode cX3_takeFrom 62 = .ok (.aload_n 1, 1) := by decide +kernel
theorem dX3_takeFrom_63 : decode cX3_takeFrom 63 = .ok (.getfield 40, 3) := by decide +kernel
theorem dX3_takeFrom_66 : decode cX3_takeFrom 66 = .ok (.putfield 40, 3) := by decide +kernel
theorem dX3_takeFrom_69 : decode cX3_takeFrom 69 = .ok (.aload_n 0, 1) := by decide +kernel
theorem dX3_takeFrom_70 : decode cX3_takeFrom 70 = .ok (.aload_n 1, 1) := by decide +kernel
theorem dX3_takeFrom_71 : decode cX3_takeFrom 71 = .ok (.getfield 43, 3) := by decide +kernel
theorem dX3_takeFrom_74 : decode cX3_takeFrom 74 = .ok (.putfield 43, 3) := by decide +kernel
theorem dX3_takeFrom_77 : decode cX3_takeFrom 77 = .ok (.aload_n 1, 1) := by decide +kernel
theorem dX3_takeFrom_78 : decode cX3_takeFrom 78 = .ok (.getfield 18, 3) := by decide +kernel
theorem dX3_takeFrom_81 : decode cX3_takeFrom 81 = .ok (.aload_n 0, 1) := by decide +kernel
theorem dX3_takeFrom_82 : decode cX3_takeFrom 82 = .ok (.getfield 18, 3) := by decide +kernel
theorem dX3_takeFrom_85 : decode cX3_takeFrom 85 = .ok (.invokestatic 56, 3) := by decide +kernel
theorem dX3_takeFrom_88 : decode cX3_takeFrom 88 = .ok (.aload_n 1, 1) := by decide +kernel
theorem dX3_takeFrom_89 : decode cX3_takeFrom 89 = .ok (.getfield 22, 3) := by decide +kernel
theorem dX3_takeFrom_92 : decode cX3_takeFrom 92 = .ok (.aload_n 0, 1) := by decide +kernel
theorem dX3_takeFrom_93 : decode cX3_takeFrom 93 = .ok (.getfield 22, 3) := by decide +kernel
theorem dX3_takeFrom_96 : decode cX3_takeFrom 96 = .ok (.invokestatic 56, 3) := by decide +kernel
theorem dX3_takeFrom_99 : decode cX3_takeFrom 99 = .ok (.aload_n 1, 1) := by decide +kernel
theorem dX3_takeFrom_100 : decode cX3_takeFrom 100 = .ok (.getfield 25, 3) := by decide +kernel
theorem dX3_takeFrom_103 : decode cX3_takeFrom 103 = .ok (.aload_n 0, 1) := by decide +kernel
theorem dX3_takeFrom_104 : decode cX3_takeFrom 104 = .ok (.getfield 25, 3) := by decide +kernel
theorem dX3_takeFrom_107 : decode cX3_takeFrom 107 = .ok (.invokestatic 56, 3) := by decide +kernel
theorem dX3_takeFrom_110 : decode cX3_takeFrom 110 = .ok (.return_, 1) := by decide +kernel
set_option maxRecDepth 20000 in
theorem ggX3_breathe_X4_isIn : GoodIn wsX3_breathe wsX4_isIn := goodIn_r _ [7] (by decide +kernel) (by decide +kernel)
set_option maxRecDepth 20000 in
theorem gX3_breathe_X4_isIn_n60 : GoodIn wsX3_breathe (wsX4_isIn) := ggX3_breathe_X4_isIn
set_option maxRecDepth 20000 in
theorem ggX3_breathe_X0_counts : GoodIn wsX3_breathe wsX0_counts := goodIn_r _ [12, 13, 14, 15, 11, 16, 17, 18, 5, 6, 7, 19, 20, 21, 22, 74, 75, 76, 77] (by decide +kernel) (by decide +kernel)
set_option maxRecDepth 20000 in
theorem gX3_breathe_X0_counts : GoodIn wsX3_breathe (wsV RX3 64 RX0 yX0_counts wsX0_counts) := goodIn_app (goodIn_of _ (by decide +kernel)) ggX3_breathe_X0_counts
set_option maxRecDepth 20000 in
theorem ggX3_breathe_X3_keepSilence : GoodIn wsX3_breathe wsX3_keepSilence := goodIn_r _ [27, 4, 28, 29, 30, 31, 11, 32, 17, 33, 34, 35, 36, 26, 37, 38, 39, 40, 41, 42, 43, 44, 1, 2, 62, 63, 64, 65, 66, 67, 68, 69, 70, 71, 72, 73, 74, 75, 76, 77] (by decide +kernel) (by decide +kernel)
set_option maxRecDepth 20000 in
theorem gX3_breathe_X3_keepSilence : GoodIn wsX3_breathe (wsV RX3 70 RX3 yX3_keepSilence wsX3_keepSilence) := goodIn_app (goodIn_of _ (by decide +kernel)) ggX3_breathe_X3_keepSilence
set_option maxRecDepth 20000 in
theorem ggX3_breathe_X3_speak : GoodIn wsX3_breathe wsX3_speak := goodIn_r _ [48, 49, 1, 28, 50, 6, 51, 52, 53, 54, 55, 56, 11, 57, 17, 13, 14, 15, 16, 18, 58, 59, 60, 61, 62, 63, 64, 65, 66, 67, 68, 69, 70, 71, 72, 73, 74, 75, 76, 77] (by decide +kernel) (by decide +kernel)
set_option maxRecDepth 20000 in
theorem gX3_breathe_X3_speak : GoodIn wsX3_breathe (wsV RX3 74 RX3 yX3_speak wsX3_speak) := goodIn_app (goodIn_of _ (by decide +kernel)) ggX3_breathe_X3_speak
theorem dX3_breathe_0 : decode cX3_breathe 0 = .ok (.aload_n 1, 1) := by decide +kernel
theorem dX3_breathe_1 : decode cX3_breathe 1 = .ok (.ifnonnull 5, 3) := by decide +kernel
theorem dX3_breathe_4 : decode cX3_breathe 4 = .ok (.iconst 0, 1) := by decide +kernel
theorem dX3_breathe_5 : decode cX3_breathe 5 = .ok (.ireturn, 1) := by decide +kernel
theorem dX3_breathe_6 : decode cX3_breathe 6 = .ok (.iconst 0, 1) := by decide +kernel
theorem dX3_breathe_7 : decode cX3_breathe 7 = .ok (.istore_n 3, 1) := by decide +kernel
theorem dX3_breathe_8 : decode cX3_breathe 8 = .ok (.iconst 0, 1) := by decide +kernel
theorem dX3_breathe_9 : decode cX3_breathe 9 = .ok (.istore 4, 2) := by decide +kernel
theorem dX3_breathe_11 : decode cX3_breathe 11 = .ok (.iconst (-1), 1) := by decide +kernel
theorem dX3_breathe_12 : decode cX3_breathe 12 = .ok (.istore 5, 2) := by decide +kernel
theorem dX3_breathe_14 : decode cX3_breathe 14 = .ok (.iconst 0, 1) := by decide +kernel
theorem dX3_breathe_15 : decode cX3_breathe 15 = .ok (.istore 6, 2) := by decide +kernel
theorem dX3_breathe_17 : decode cX3_breathe 17 = .ok (.iload 6, 2) := by decide +kernel
theorem dX3_breathe_19 : decode cX3_breathe 19 = .ok (.iconst 5, 1) := by decide +kernel
theorem dX3_breathe_20 : decode cX3_breathe 20 = .ok (.if_icmp .ge 51, 3) := by decide +kernel
theorem dX3_breathe_23 : decode cX3_breathe 23 = .ok (.iload 6, 2) := by decide +kernel
theorem dX3_breathe_25 : decode cX3_breathe 25 = .ok (.iload_n 2, 1) := by decide +kernel
theorem dX3_breathe_26 : decode cX3_breathe 26 = .ok (.invokestatic 60, 3) := by decide +kernel
theorem dX3_breathe_29 : decode cX3_breathe 29 = .ok (.ifCond .eq 36, 3) := by decide +kernel
theorem dX3_breathe_32 : decode cX3_breathe 32 = .ok (.aload_n 1, 1) := by decide +kernel
theorem dX3_breathe_33 : decode cX3_breathe 33 = .ok (.iload 6, 2) := by decide +kernel
theorem dX3_breathe_35 : decode cX3_breathe 35 = .ok (.aload_n 0, 1) := by decide +kernel
theorem dX3_breathe_36 : decode cX3_breathe 36 = .ok (.getfield 9, 3) := by decide +kernel
theorem dX3_breathe_39 : decode cX3_breathe 39 = .ok (.aload_n 0, 1) := by decide +kernel
theorem dX3_breathe_40 : decode cX3_breathe 40 = .ok (.getfield 50, 3) := by decide +kernel
theorem dX3_breathe_43 : decode cX3_breathe 43 = .ok (.invokevirtual 64, 3) := by decide +kernel
theorem dX3_breathe_46 : decode cX3_breathe 46 = .ok (.ifCond .eq 19, 3) := by decide +kernel
theorem dX3_breathe_49 : decode cX3_breathe 49 = .ok (.iinc 3 1, 3) := by decide +kernel
theorem dX3_breathe_52 : decode cX3_breathe 52 = .ok (.iload 4, 2) := by decide +kernel
theorem dX3_breathe_54 : decode cX3_breathe 54 = .ok (.iconst 1, 1) := by decide +kernel
theorem dX3_breathe_55 : decode cX3_breathe 55 = .ok (.iload 6, 2) := by decide +kernel
theorem dX3_breathe_57 : decode cX3_breathe 57 = .ok (.ishl, 1) := by decide +kernel
theorem dX3_breathe_58 : decode cX3_breathe 58 = .ok (.ior, 1) := by decide +kernel
theorem dX3_breathe_59 : decode cX3_breathe 59 = .ok (.istore 4, 2) := by decide +kernel
theorem dX3_breathe_61 : decode cX3_breathe 61 = .ok (.iload 6, 2) := by decide +kernel
theorem dX3_breathe_63 : decode cX3_breathe 63 = .ok (.istore 5, 2) := by decide +kernel
theorem dX3_breathe_65 : decode cX3_breathe 65 = .ok (.iinc 6 1, 3) := by decide +kernel
theorem dX3_breathe_68 : decode cX3_breathe 68 = .ok (.goto (-51), 3) := by decide +kernel
theorem dX3_breathe_71 : decode cX3_breathe 71 = .ok (.aload_n 0, 1) := by decide +kernel
theorem dX3_breathe_72 : decode cX3_breathe 72 = .ok (.dup, 1) := by decide +kernel
theorem dX3_breathe_73 : decode cX3_breathe 73 = .ok (.getfield 40, 3) := by decide +kernel
theorem dX3_breathe_76 : decode cX3_breathe 76 = .ok (.iconst 1, 1) := by decide +kernel
theorem dX3_breathe_77 : decode cX3_breathe 77 = .ok (.iadd, 1) := by decide +kernel
theorem dX3_breathe_78 : decode cX3_breathe 78 = .ok (.putfield 40, 3) := by decide +kernel
theorem dX3_breathe_81 : decode cX3_breathe 81 = .ok (.iload_n 3, 1) := by decide +kernel
theorem dX3_breathe_82 : decode cX3_breathe 82 = .ok (.ifCond .ne 11, 3) := by decide +kernel
theorem dX3_breathe_85 : decode cX3_breathe 85 = .ok (.aload_n 0, 1) := by decide +kernel
theorem dX3_breathe_86 : decode cX3_breathe 86 = .ok (.aload_n 1, 1) := by decide +kernel
theorem dX3_breathe_87 : decode cX3_breathe 87 = .ok (.invokevirtual 70, 3) := by decide +kernel
theorem dX3_breathe_90 : decode cX3_breathe 90 = .ok (.goto 34, 3) := by decide +kernel
theorem dX3_breathe_93 : decode cX3_breathe 93 = .ok (.aload_n 0, 1) := by decide +kernel
theorem dX3_breathe_94 : decode cX3_breathe 94 = .ok (.iconst 0, 1) := by decide +kernel
theorem dX3_breathe_95 : decode cX3_breathe 95 = .ok (.putfield 53, 3) := by decide +kernel
theorem dX3_breathe_98 : decode cX3_breathe 98 = .ok (.iload_n 3, 1) := by decide +kernel
theorem dX3_breathe_99 : decode cX3_breathe 99 = .ok (.iconst 1, 1) := by decide +kernel
theorem dX3_breathe_100 : decode cX3_breathe 100 = .ok (.if_icmp .ne 13, 3) := by decide +kernel
theorem dX3_breathe_103 : decode cX3_breathe 103 = .ok (.aload_n 0, 1) := by decide +kernel
theorem dX3_breathe_104 : decode cX3_breathe 104 = .ok (.aload_n 1, 1) := by decide +kernel
theorem dX3_breathe_105 : decode cX3_breathe 105 = .ok (.iload 5, 2) := by decide +kernel
theorem dX3_breathe_107 : decode cX3_breathe 107 = .ok (.invokevirtual 74, 3) := by decide +kernel
theorem dX3_breathe_110 : decode cX3_breathe 110 = .ok (.goto 14, 3) := by decide +kernel
theorem dX3_breathe_113 : decode cX3_breathe 113 = .ok (.aload_n 0, 1) := by decide +kernel
theorem dX3_breathe_114 : decode cX3_breathe 114 = .ok (.aload_n 0, 1) := by decide +kernel
theorem dX3_breathe_115 : decode cX3_breathe 115 = .ok (.getfield 50, 3) := by decide +kernel
theorem dX3_breathe_118 : decode cX3_breathe 118 = .ok (.iload 4, 2) := by decide +kernel
theorem dX3_breathe_120 : decode cX3_breathe 120 = .ok (.ior, 1) := by decide +kernel
theorem dX3_breathe_121 : decode cX3_breathe 121 = .ok (.putfield 50, 3) := by decide +kernel
theorem dX3_breathe_124 : decode cX3_breathe 124 = .ok (.iload_n 3, 1) := by decide +kernel
theorem dX3_breathe_125 : decode cX3_breathe 125 = .ok (.ireturn, 1) := by decide +kernel
set_option maxRecDepth 20000 in
theorem ggX3_speak_X4_at : GoodIn wsX3_speak wsX4_at := goodIn_r _ [6] (by decide +kernel) (by decide +kernel)
set_option maxRecDepth 20000 in
theorem gX3_speak_X4_at_n78 : GoodIn wsX3_speak (wsX4_at) := ggX3_speak_X4_at
set_option maxRecDepth 20000 in
theorem ggX3_speak_X4_put : GoodIn wsX3_speak wsX4_put := goodIn_r _ [8] (by decide +kernel) (by decide +kernel)
set_option maxRecDepth 20000 in
theorem gX3_speak_X4_put_n82 : GoodIn wsX3_speak (wsX4_put) := ggX3_speak_X4_put
set_option maxRecDepth 20000 in
theorem ggX3_speak_X0_believedBehind : GoodIn wsX3_speak wsX0_believedBehind := goodIn_r _ [13, 14, 15, 16, 17, 12, 18, 19, 36, 37, 38, 39] (by decide +kernel) (by decide +kernel)
set_option maxRecDepth 20000 in
theorem gX3_speak_X0_believedBehind : GoodIn wsX3_speak (wsV RX3 86 RX0 yX0_believedBehind wsX0_believedBehind) := goodIn_app (goodIn_of _ (by decide +kernel)) ggX3_speak_X0_believedBehind
set_option maxRecDepth 20000 in
theorem ggX3_speak_X0_lastBehind : GoodIn wsX3_speak wsX0_lastBehind := goodIn_r _ [23, 15, 16, 17, 12, 18, 14, 19, 36, 37, 38, 39] (by decide +kernel) (by decide +kernel)
set_option maxRecDepth 20000 in
theorem gX3_speak_X0_lastBehind : GoodIn wsX3_speak (wsV RX3 90 RX0 yX0_lastBehind wsX0_lastBehind) := goodIn_app (goodIn_of _ (by decide +kernel)) ggX3_speak_X0_lastBehind
theorem dX3_speak_0 : decode cX3_speak 0 = .ok (.aload_n 0, 1) := by decide +kernel
theorem dX3_speak_1 : decode cX3_speak 1 = .ok (.getfield 18, 3) := by decide +kernel
theorem dX3_speak_4 : decode cX3_speak 4 = .ok (.iload_n 2, 1) := by decide +kernel
theorem dX3_speak_5 : decode cX3_speak 5 = .ok (.aload_n 0, 1) := by decide +kernel
theorem dX3_speak_6 : decode cX3_speak 6 = .ok (.getfield 18, 3) := by decide +kernel
theorem dX3_speak_9 : decode cX3_speak 9 = .ok (.iload_n 2, 1) := by decide +kernel
theorem dX3_speak_10 : decode cX3_speak 10 = .ok (.invokestatic 78, 3) := by decide +kernel
theorem dX3_speak_13 : decode cX3_speak 13 = .ok (.iconst 1, 1) := by decide +kernel
theorem dX3_speak_14 : decode cX3_speak 14 = .ok (.iadd, 1) := by decide +kernel
theorem dX3_speak_15 : decode cX3_speak 15 = .ok (.invokestatic 82, 3) := by decide +kernel
theorem dX3_speak_18 : decode cX3_speak 18 = .ok (.aload_n 1, 1) := by decide +kernel
theorem dX3_speak_19 : decode cX3_speak 19 = .ok (.ifnull 33, 3) := by decide +kernel
theorem dX3_speak_22 : decode cX3_speak 22 = .ok (.iload_n 2, 1) := by decide +kernel
theorem dX3_speak_23 : decode cX3_speak 23 = .ok (.aload_n 0, 1) := by decide +kernel
theorem dX3_speak_24 : decode cX3_speak 24 = .ok (.getfield 9, 3) := by decide +kernel
theorem dX3_speak_27 : decode cX3_speak 27 = .ok (.if_icmp .eq 25, 3) := by decide +kernel
theorem dX3_speak_30 : decode cX3_speak 30 = .ok (.aload_n 0, 1) := by decide +kernel
theorem dX3_speak_31 : decode cX3_speak 31 = .ok (.aload_n 1, 1) := by decide +kernel
theorem dX3_speak_32 : decode cX3_speak 32 = .ok (.iload_n 2, 1) := by decide +kernel
theorem dX3_speak_33 : decode cX3_speak 33 = .ok (.aload_n 0, 1) := by decide +kernel
theorem dX3_speak_34 : decode cX3_speak 34 = .ok (.getfield 9, 3) := by decide +kernel
theorem dX3_speak_37 : decode cX3_speak 37 = .ok (.invokevirtual 86, 3) := by decide +kernel
theorem dX3_speak_40 : decode cX3_speak 40 = .ok (.putfield 15, 3) := by decide +kernel
theorem dX3_speak_43 : decode cX3_speak 43 = .ok (.aload_n 0, 1) := by decide +kernel
theorem dX3_speak_44 : decode cX3_speak 44 = .ok (.aload_n 1, 1) := by decide +kernel
theorem dX3_speak_45 : decode cX3_speak 45 = .ok (.iload_n 2, 1) := by decide +kernel
theorem dX3_speak_46 : decode cX3_speak 46 = .ok (.invokevirtual 90, 3) := by decide +kernel
theorem dX3_speak_49 : decode cX3_speak 49 = .ok (.putfield 9, 3) := by decide +kernel
theorem dX3_speak_52 : decode cX3_speak 52 = .ok (.return_, 1) := by decide +kernel
set_option maxRecDepth 20000 in
theorem ggX3_keepSilence_X0_sideAt : GoodIn wsX3_keepSilence wsX0_sideAt := goodIn_r _ [7, 8, 9, 36, 37, 38, 39] (by decide +kernel) (by decide +kernel)
set_option maxRecDepth 20000 in
theorem gX3_keepSilence_X0_sideAt : GoodIn wsX3_keepSilence (wsV RX3 97 RX0 yX0_sideAt wsX0_sideAt) := goodIn_app (goodIn_of _ (by decide +kernel)) ggX3_keepSilence_X0_sideAt
set_option maxRecDepth 20000 in
theorem ggX3_keepSilence_X3_endCase : GoodIn wsX3_keepSilence wsX3_endCase := goodIn_r _ [14, 15, 16, 17, 18, 19, 20, 13, 21, 22, 2, 23, 1, 24, 25, 26, 27, 28, 29, 30, 31, 32, 33, 34, 35] (by decide +kernel) (by decide +kernel)
set_option maxRecDepth 20000 in
theorem gX3_keepSilence_X3_endCase : GoodIn wsX3_keepSilence (wsV RX3 100 RX3 yX3_endCase wsX3_endCase) := goodIn_app (goodIn_of _ (by decide +kernel)) ggX3_keepSilence_X3_endCase
theorem dX3_keepSilence_0 : decode cX3_keepSilence 0 = .ok (.aload_n 0, 1) := by decide +kernel
theorem dX3_keepSilence_1 : decode cX3_keepSilence 1 = .ok (.dup, 1) := by decide +kernel
theorem dX3_keepSilence_2 : decode cX3_keepSilence 2 = .ok (.getfield 53, 3) := by decide +kernel
theorem dX3_keepSilence_5 : decode cX3_keepSilence 5 = .ok (.iconst 1, 1) := by decide +kernel
theorem dX3_keepSilence_6 : decode cX3_keepSilence 6 = .ok (.iadd, 1) := by decide +kernel
theorem dX3_keepSilence_7 : decode cX3_keepSilence 7 = .ok (.putfield 53, 3) := by decide +kernel
theorem dX3_keepSilence_10 : decode cX3_keepSilence 10 = .ok (.aload_n 1, 1) := by decide +kernel
theorem dX3_keepSilence_11 : decode cX3_keepSilence 11 = .ok (.ifnull 26, 3) := by decide +kernel
theorem dX3_keepSilence_14 : decode cX3_keepSilence 14 = .ok (.aload_n 0, 1) := by decide +kernel
theorem dX3_keepSilence_15 : decode cX3_keepSilence 15 = .ok (.getfield 53, 3) := by decide +kernel
theorem dX3_keepSilence_18 : decode cX3_keepSilence 18 = .ok (.aload_n 1, 1) := by decide +kernel
theorem dX3_keepSilence_19 : decode cX3_keepSilence 19 = .ok (.getfield 94, 3) := by decide +kernel
theorem dX3_keepSilence_22 : decode cX3_keepSilence 22 = .ok (.if_icmp .lt 15, 3) := by decide +kernel
theorem dX3_keepSilence_25 : decode cX3_keepSilence 25 = .ok (.aload_n 0, 1) := by decide +kernel
theorem dX3_keepSilence_26 : decode cX3_keepSilence 26 = .ok (.aload_n 1, 1) := by decide +kernel
theorem dX3_keepSilence_27 : decode cX3_keepSilence 27 = .ok (.aload_n 0, 1) := by decide +kernel
theorem dX3_keepSilence_28 : decode cX3_keepSilence 28 = .ok (.getfield 15, 3) := by decide +kernel
theorem dX3_keepSilence_31 : decode cX3_keepSilence 31 = .ok (.invokevirtual 97, 3) := by decide +kernel
theorem dX3_keepSilence_34 : decode cX3_keepSilence 34 = .ok (.invokevirtual 100, 3) := by decide +kernel
theorem dX3_keepSilence_37 : decode cX3_keepSilence 37 = .ok (.return_, 1) := by decide +kernel
set_option maxRecDepth 20000 in
theorem ggX3_endCase_X3_beginCase : GoodIn wsX3_endCase wsX3_beginCase := goodIn_r _ [8, 9, 10, 11, 12, 13, 14, 15, 16, 17, 18, 19, 20, 21, 22, 23, 24] (by decide +kernel) (by decide +kernel)
set_option maxRecDepth 20000 in
theorem gX3_endCase_X3_beginCase : GoodIn wsX3_endCase (wsV RX3 28 RX3 yX3_beginCase wsX3_beginCase) := goodIn_app (goodIn_of _ (by decide +kernel)) ggX3_endCase_X3_beginCase
theorem dX3_endCase_0 : decode cX3_endCase 0 = .ok (.aload_n 0, 1) := by decide +kernel
theorem dX3_endCase_1 : decode cX3_endCase 1 = .ok (.dup, 1) := by decide +kernel
theorem dX3_endCase_2 : decode cX3_endCase 2 = .ok (.getfield 31, 3) := by decide +kernel
theorem dX3_endCase_5 : decode cX3_endCase 5 = .ok (.iconst 1, 1) := by decide +kernel
theorem dX3_endCase_6 : decode cX3_endCase 6 = .ok (.iadd, 1) := by decide +kernel
theorem dX3_endCase_7 : decode cX3_endCase 7 = .ok (.putfield 31, 3) := by decide +kernel
theorem dX3_endCase_10 : decode cX3_endCase 10 = .ok (.iload_n 1, 1) := by decide +kernel
theorem dX3_endCase_11 : decode cX3_endCase 11 = .ok (.ifCond .ne 13, 3) := by decide +kernel
theorem dX3_endCase_14 : decode cX3_endCase 14 = .ok (.aload_n 0, 1) := by decide +kernel
theorem dX3_endCase_15 : decode cX3_endCase 15 = .ok (.dup, 1) := by decide +kernel
theorem dX3_endCase_16 : decode cX3_endCase 16 = .ok (.getfield 34, 3) := by decide +kernel
theorem dX3_endCase_19 : decode cX3_endCase 19 = .ok (.iconst 1, 1) := by decide +kernel
theorem dX3_endCase_20 : decode cX3_endCase 20 = .ok (.iadd, 1) := by decide +kernel
theorem dX3_endCase_21 : decode cX3_endCase 21 = .ok (.putfield 34, 3) := by decide +kernel
theorem dX3_endCase_24 : decode cX3_endCase 24 = .ok (.iload_n 1, 1) := by decide +kernel
theorem dX3_endCase_25 : decode cX3_endCase 25 = .ok (.iconst 1, 1) := by decide +kernel
theorem dX3_endCase_26 : decode cX3_endCase 26 = .ok (.if_icmp .ne 13, 3) := by decide +kernel
theorem dX3_endCase_29 : decode cX3_endCase 29 = .ok (.aload_n 0, 1) := by decide +kernel
theorem dX3_endCase_30 : decode cX3_endCase 30 = .ok (.dup, 1) := by decide +kernel
theorem dX3_endCase_31 : decode cX3_endCase 31 = .ok (.getfield 37, 3) := by decide +kernel
theorem dX3_endCase_34 : decode cX3_endCase 34 = .ok (.iconst 1, 1) := by decide +kernel
theorem dX3_endCase_35 : decode cX3_endCase 35 = .ok (.iadd, 1) := by decide +kernel
theorem dX3_endCase_36 : decode cX3_endCase 36 = .ok (.putfield 37, 3) := by decide +kernel
theorem dX3_endCase_39 : decode cX3_endCase 39 = .ok (.aload_n 0, 1) := by decide +kernel
theorem dX3_endCase_40 : decode cX3_endCase 40 = .ok (.invokevirtual 28, 3) := by decide +kernel
theorem dX3_endCase_43 : decode cX3_endCase 43 = .ok (.return_, 1) := by decide +kernel
set_option maxRecDepth 20000 in
theorem ggX3_tell_X4_put : GoodIn wsX3_tell wsX4_put := goodIn_r _ [6] (by decide +kernel) (by decide +kernel)
set_option maxRecDepth 20000 in
theorem gX3_tell_X4_put_n82 : GoodIn wsX3_tell (wsX4_put) := ggX3_tell_X4_put
theorem dX3_tell_0 : decode cX3_tell 0 = .ok (.aload_n 0, 1) := by decide +kernel
theorem dX3_tell_1 : decode cX3_tell 1 = .ok (.getfield 43, 3) := by decide +kernel
theorem dX3_tell_4 : decode cX3_tell 4 = .ok (.bipush 8, 2) := by decide +kernel
theorem dX3_tell_6 : decode cX3_tell 6 = .ok (.if_icmp .ge 37, 3) := by decide +kernel
theorem dX3_tell_9 : decode cX3_tell 9 = .ok (.aload_n 0, 1) := by decide +kernel
theorem dX3_tell_10 : decode cX3_tell 10 = .ok (.getfield 22, 3) := by decide +kernel
theorem dX3_tell_13 : decode cX3_tell 13 = .ok (.aload_n 0, 1) := by decide +kernel
theorem dX3_tell_14 : decode cX3_tell 14 = .ok (.getfield 43, 3) := by decide +kernel
theorem dX3_tell_17 : decode cX3_tell 17 = .ok (.iload_n 1, 1) := by decide +kernel
theorem dX3_tell_18 : decode cX3_tell 18 = .ok (.invokestatic 82, 3) := by decide +kernel
theorem dX3_tell_21 : decode cX3_tell 21 = .ok (.aload_n 0, 1) := by decide +kernel
theorem dX3_tell_22 : decode cX3_tell 22 = .ok (.getfield 25, 3) := by decide +kernel
theorem dX3_tell_25 : decode cX3_tell 25 = .ok (.aload_n 0, 1) := by decide +kernel
theorem dX3_tell_26 : decode cX3_tell 26 = .ok (.getfield 43, 3) := by decide +kernel
theorem dX3_tell_29 : decode cX3_tell 29 = .ok (.iload_n 2, 1) := by decide +kernel
theorem dX3_tell_30 : decode cX3_tell 30 = .ok (.invokestatic 82, 3) := by decide +kernel
theorem dX3_tell_33 : decode cX3_tell 33 = .ok (.aload_n 0, 1) := by decide +kernel
theorem dX3_tell_34 : decode cX3_tell 34 = .ok (.dup, 1) := by decide +kernel
theorem dX3_tell_35 : decode cX3_tell 35 = .ok (.getfield 43, 3) := by decide +kernel
theorem dX3_tell_38 : decode cX3_tell 38 = .ok (.iconst 1, 1) := by decide +kernel
theorem dX3_tell_39 : decode cX3_tell 39 = .ok (.iadd, 1) := by decide +kernel
theorem dX3_tell_40 : decode cX3_tell 40 = .ok (.putfield 43, 3) := by decide +kernel
theorem dX3_tell_43 : decode cX3_tell 43 = .ok (.return_, 1) := by decide +kernel
set_option maxRecDepth 20000 in
theorem ggX3_allows_X4_at : GoodIn wsX3_allows wsX4_at := goodIn_r _ [6] (by decide +kernel) (by decide +kernel)
set_option maxRecDepth 20000 in
theorem gX3_allows_X4_at_n78 : GoodIn wsX3_allows (wsX4_at) := ggX3_allows_X4_at
theorem dX3_allows_0 : decode cX3_allows 0 = .ok (.iconst 0, 1) := by decide +kernel
theorem dX3_allows_1 : decode cX3_allows 1 = .ok (.istore_n 3, 1) := by decide +kernel
theorem dX3_allows_2 : decode cX3_allows 2 = .ok (.iload_n 3, 1) := by decide +kernel
theorem dX3_allows_3 : decode cX3_allows 3 = .ok (.aload_n 0, 1) := by decide +kernel
theorem dX3_allows_4 : decode cX3_allows 4 = .ok (.getfield 43, 3) := by decide +kernel
theorem dX3_allows_7 : decode cX3_allows 7 = .ok (.if_icmp .ge 35, 3) := by decide +kernel
theorem dX3_allows_10 : decode cX3_allows 10 = .ok (.aload_n 0, 1) := by decide +kernel
theorem dX3_allows_11 : decode cX3_allows 11 = .ok (.getfield 22, 3) := by decide +kernel
theorem dX3_allows_14 : decode cX3_allows 14 = .ok (.iload_n 3, 1) := by decide +kernel
theorem dX3_allows_15 : decode cX3_allows 15 = .ok (.invokestatic 78, 3) := by decide +kernel
theorem dX3_allows_18 : decode cX3_allows 18 = .ok (.iload_n 1, 1) := by decide +kernel
theorem dX3_allows_19 : decode cX3_allows 19 = .ok (.if_icmp .ne 17, 3) := by decide +kernel
theorem dX3_allows_22 : decode cX3_allows 22 = .ok (.aload_n 0, 1) := by decide +kernel
theorem dX3_allows_23 : decode cX3_allows 23 = .ok (.getfield 25, 3) := by decide +kernel
theorem dX3_allows_26 : decode cX3_allows 26 = .ok (.iload_n 3, 1) := by decide +kernel
theorem dX3_allows_27 : decode cX3_allows 27 = .ok (.invokestatic 78, 3) := by decide +kernel
theorem dX3_allows_30 : decode cX3_allows 30 = .ok (.iload_n 2, 1) := by decide +kernel
theorem dX3_allows_31 : decode cX3_allows 31 = .ok (.if_icmp .eq 5, 3) := by decide +kernel
theorem dX3_allows_34 : decode cX3_allows 34 = .ok (.iconst 0, 1) := by decide +kernel
theorem dX3_allows_35 : decode cX3_allows 35 = .ok (.ireturn, 1) := by decide +kernel
theorem dX3_allows_36 : decode cX3_allows 36 = .ok (.iinc 3 1, 3) := by decide +kernel
theorem dX3_allows_39 : decode cX3_allows 39 = .ok (.goto (-37), 3) := by decide +kernel
theorem dX3_allows_42 : decode cX3_allows 42 = .ok (.iconst 1, 1) := by decide +kernel
theorem dX3_allows_43 : decode cX3_allows 43 = .ok (.ireturn, 1) := by decide +kernel
set_option maxRecDepth 20000 in
theorem ggX4_init_X2_init : GoodIn wsX4_init wsX2_init := goodIn_r _ [25, 26, 2, 3, 27, 28, 56, 57] (by decide +kernel) (by decide +kernel)
set_option maxRecDepth 20000 in
theorem gX4_init_X2_init_n9 : GoodIn wsX4_init (wsX2_init) := ggX4_init_X2_init
set_option maxRecDepth 20000 in
theorem ggX4_init_X0_init : GoodIn wsX4_init wsX0_init := goodIn_r _ [30, 31, 2, 3, 27, 32, 33, 66, 67, 68, 69] (by decide +kernel) (by decide +kernel)
set_option maxRecDepth 20000 in
theorem gX4_init_X0_init_n18 : GoodIn wsX4_init (wsX0_init) := ggX4_init_X0_init
set_option maxRecDepth 20000 in
theorem ggX4_init_X3_init : GoodIn wsX4_init wsX3_init := goodIn_r _ [35, 36, 2, 3, 37, 38, 27, 39, 40, 41, 70, 71, 72, 73, 74, 75, 76, 77, 78, 79, 80, 81] (by decide +kernel) (by decide +kernel)
set_option maxRecDepth 20000 in
theorem gX4_init_X3_init_n25 : GoodIn wsX4_init (wsX3_init) := ggX4_init_X3_init
set_option maxRecDepth 20000 in
theorem ggX4_init_X1_init : GoodIn wsX4_init wsX1_init := goodIn_r _ [44, 45, 2, 3, 27, 46, 47, 48, 49, 50, 51, 52, 53, 54, 55, 82, 83, 84, 85, 86, 87, 88, 89, 90, 91] (by decide +kernel) (by decide +kernel)
set_option maxRecDepth 20000 in
theorem gX4_init_X1_init : GoodIn wsX4_init (wsX1_init) := ggX4_init_X1_init
theorem dX4_init_0 : decode cX4_init 0 = .ok (.aload_n 0, 1) := by decide +kernel
theorem dX4_init_1 : decode cX4_init 1 = .ok (.invokespecial 1, 3) := by decide +kernel
theorem dX4_init_4 : decode cX4_init 4 = .ok (.aload_n 0, 1) := by decide +kernel
theorem dX4_init_5 : decode cX4_init 5 = .ok (.new 7, 3) := by decide +kernel
theorem dX4_init_8 : decode cX4_init 8 = .ok (.dup, 1) := by decide +kernel
theorem dX4_init_9 : decode cX4_init 9 = .ok (.invokespecial 9, 3) := by decide +kernel
theorem dX4_init_12 : decode cX4_init 12 = .ok (.putfield 10, 3) := by decide +kernel
theorem dX4_init_15 : decode cX4_init 15 = .ok (.aload_n 0, 1) := by decide +kernel
theorem dX4_init_16 : decode cX4_init 16 = .ok (.new 16, 3) := by decide +kernel
theorem dX4_init_19 : decode cX4_init 19 = .ok (.dup, 1) := by decide +kernel
theorem dX4_init_20 : decode cX4_init 20 = .ok (.invokespecial 18, 3) := by decide +kernel
theorem dX4_init_23 : decode cX4_init 23 = .ok (.putfield 19, 3) := by decide +kernel
theorem dX4_init_26 : decode cX4_init 26 = .ok (.aload_n 0, 1) := by decide +kernel
theorem dX4_init_27 : decode cX4_init 27 = .ok (.new 23, 3) := by decide +kernel
theorem dX4_init_30 : decode cX4_init 30 = .ok (.dup, 1) := by decide +kernel
theorem dX4_init_31 : decode cX4_init 31 = .ok (.invokespecial 25, 3) := by decide +kernel
theorem dX4_init_34 : decode cX4_init 34 = .ok (.putfield 26, 3) := by decide +kernel
theorem dX4_init_37 : decode cX4_init 37 = .ok (.aload_n 0, 1) := by decide +kernel
theorem dX4_init_38 : decode cX4_init 38 = .ok (.new 23, 3) := by decide +kernel
theorem dX4_init_41 : decode cX4_init 41 = .ok (.dup, 1) := by decide +kernel
theorem dX4_init_42 : decode cX4_init 42 = .ok (.invokespecial 25, 3) := by decide +kernel
theorem dX4_init_45 : decode cX4_init 45 = .ok (.putfield 30, 3) := by decide +kernel
theorem dX4_init_48 : decode cX4_init 48 = .ok (.aload_n 0, 1) := by decide +kernel
theorem dX4_init_49 : decode cX4_init 49 = .ok (.new 23, 3) := by decide +kernel
theorem dX4_init_52 : decode cX4_init 52 = .ok (.dup, 1) := by decide +kernel
theorem dX4_init_53 : decode cX4_init 53 = .ok (.invokespecial 25, 3) := by decide +kernel
theorem dX4_init_56 : decode cX4_init 56 = .ok (.putfield 33, 3) := by decide +kernel
theorem dX4_init_59 : decode cX4_init 59 = .ok (.aload_n 0, 1) := by decide +kernel
theorem dX4_init_60 : decode cX4_init 60 = .ok (.new 36, 3) := by decide +kernel
theorem dX4_init_63 : decode cX4_init 63 = .ok (.dup, 1) := by decide +kernel
theorem dX4_init_64 : decode cX4_init 64 = .ok (.aload_n 0, 1) := by decide +kernel
theorem dX4_init_65 : decode cX4_init 65 = .ok (.getfield 19, 3) := by decide +kernel
theorem dX4_init_68 : decode cX4_init 68 = .ok (.aload_n 0, 1) := by decide +kernel
theorem dX4_init_69 : decode cX4_init 69 = .ok (.getfield 26, 3) := by decide +kernel
theorem dX4_init_72 : decode cX4_init 72 = .ok (.invokespecial 38, 3) := by decide +kernel
theorem dX4_init_75 : decode cX4_init 75 = .ok (.putfield 41, 3) := by decide +kernel
theorem dX4_init_78 : decode cX4_init 78 = .ok (.aload_n 0, 1) := by decide +kernel
theorem dX4_init_79 : decode cX4_init 79 = .ok (.iconst 0, 1) := by decide +kernel
theorem dX4_init_80 : decode cX4_init 80 = .ok (.putfield 45, 3) := by decide +kernel
theorem dX4_init_83 : decode cX4_init 83 = .ok (.aload_n 0, 1) := by decide +kernel
theorem dX4_init_84 : decode cX4_init 84 = .ok (.iconst 0, 1) := by decide +kernel
theorem dX4_init_85 : decode cX4_init 85 = .ok (.putfield 49, 3) := by decide +kernel
theorem dX4_init_88 : decode cX4_init 88 = .ok (.return_, 1) := by decide +kernel
set_option maxRecDepth 20000 in
theorem ggX4_letter_X2_append : GoodIn wsX4_letter wsX2_append := goodIn_r _ [6, 7, 8, 9, 10, 11, 20, 21] (by decide +kernel) (by decide +kernel)
set_option maxRecDepth 20000 in
theorem gX4_letter_X2_append : GoodIn wsX4_letter (wsV RX4 56 RX2 yX2_append wsX2_append) := goodIn_app (goodIn_of _ (by decide +kernel)) ggX4_letter_X2_append
theorem dX4_letter_0 : decode cX4_letter 0 = .ok (.iload_n 1, 1) := by decide +kernel
theorem dX4_letter_1 : decode cX4_letter 1 = .ok (.iconst 1, 1) := by decide +kernel
theorem dX4_letter_2 : decode cX4_letter 2 = .ok (.if_icmp .lt 9, 3) := by decide +kernel
theorem dX4_letter_5 : decode cX4_letter 5 = .ok (.iload_n 1, 1) := by decide +kernel
theorem dX4_letter_6 : decode cX4_letter 6 = .ok (.bipush 126, 2) := by decide +kernel
theorem dX4_letter_8 : decode cX4_letter 8 = .ok (.if_icmp .le 6, 3) := by decide +kernel
theorem dX4_letter_11 : decode cX4_letter 11 = .ok (.bipush (-102), 2) := by decide +kernel
theorem dX4_letter_13 : decode cX4_letter 13 = .ok (.ireturn, 1) := by decide +kernel
theorem dX4_letter_14 : decode cX4_letter 14 = .ok (.aload_n 0, 1) := by decide +kernel
theorem dX4_letter_15 : decode cX4_letter 15 = .ok (.getfield 10, 3) := by decide +kernel
theorem dX4_letter_18 : decode cX4_letter 18 = .ok (.getfield 53, 3) := by decide +kernel
theorem dX4_letter_21 : decode cX4_letter 21 = .ok (.bipush 18, 2) := by decide +kernel
theorem dX4_letter_23 : decode cX4_letter 23 = .ok (.if_icmp .lt 6, 3) := by decide +kernel
theorem dX4_letter_26 : decode cX4_letter 26 = .ok (.bipush (-104), 2) := by decide +kernel
theorem dX4_letter_28 : decode cX4_letter 28 = .ok (.ireturn, 1) := by decide +kernel
theorem dX4_letter_29 : decode cX4_letter 29 = .ok (.aload_n 0, 1) := by decide +kernel
theorem dX4_letter_30 : decode cX4_letter 30 = .ok (.getfield 10, 3) := by decide +kernel
theorem dX4_letter_33 : decode cX4_letter 33 = .ok (.iload_n 1, 1) := by decide +kernel
theorem dX4_letter_34 : decode cX4_letter 34 = .ok (.invokevirtual 56, 3) := by decide +kernel
theorem dX4_letter_37 : decode cX4_letter 37 = .ok (.aload_n 0, 1) := by decide +kernel
theorem dX4_letter_38 : decode cX4_letter 38 = .ok (.getfield 10, 3) := by decide +kernel
theorem dX4_letter_41 : decode cX4_letter 41 = .ok (.getfield 53, 3) := by decide +kernel
theorem dX4_letter_44 : decode cX4_letter 44 = .ok (.ireturn, 1) := by decide +kernel
set_option maxRecDepth 20000 in
theorem ggX4_blank_X2_wipe : GoodIn wsX4_blank wsX2_wipe := goodIn_r _ [6, 7, 16, 17] (by decide +kernel) (by decide +kernel)
set_option maxRecDepth 20000 in
theorem gX4_blank_X2_wipe : GoodIn wsX4_blank (wsV RX4 60 RX2 yX2_wipe wsX2_wipe) := goodIn_app (goodIn_of _ (by decide +kernel)) ggX4_blank_X2_wipe
theorem dX4_blank_0 : decode cX4_blank 0 = .ok (.aload_n 0, 1) := by decide +kernel
theorem dX4_blank_1 : decode cX4_blank 1 = .ok (.getfield 10, 3) := by decide +kernel
theorem dX4_blank_4 : decode cX4_blank 4 = .ok (.getfield 53, 3) := by decide +kernel
theorem dX4_blank_7 : decode cX4_blank 7 = .ok (.istore_n 1, 1) := by decide +kernel
theorem dX4_blank_8 : decode cX4_blank 8 = .ok (.aload_n 0, 1) := by decide +kernel
theorem dX4_blank_9 : decode cX4_blank 9 = .ok (.getfield 10, 3) := by decide +kernel
theorem dX4_blank_12 : decode cX4_blank 12 = .ok (.invokevirtual 60, 3) := by decide +kernel
theorem dX4_blank_15 : decode cX4_blank 15 = .ok (.iload_n 1, 1) := by decide +kernel
theorem dX4_blank_16 : decode cX4_blank 16 = .ok (.ireturn, 1) := by decide +kernel
set_option maxRecDepth 20000 in
theorem ggX4_fault_X2_firstFault : GoodIn wsX4_fault wsX2_firstFault := goodIn_r _ [6, 7, 8, 9, 10, 5, 11, 12, 13, 14, 15, 16, 17, 18, 19, 20, 21, 22, 23, 24, 33, 34] (by decide +kernel) (by decide +kernel)
set_option maxRecDepth 20000 in
theorem gX4_fault_X2_firstFault : GoodIn wsX4_fault (wsV RX4 63 RX2 yX2_firstFault wsX2_firstFault) := goodIn_app (goodIn_of _ (by decide +kernel)) ggX4_fault_X2_firstFault
theorem dX4_fault_0 : decode cX4_fault 0 = .ok (.aload_n 0, 1) := by decide +kernel
theorem dX4_fault_1 : decode cX4_fault 1 = .ok (.getfield 10, 3) := by decide +kernel
theorem dX4_fault_4 : decode cX4_fault 4 = .ok (.invokevirtual 63, 3) := by decide +kernel
theorem dX4_fault_7 : decode cX4_fault 7 = .ok (.ireturn, 1) := by decide +kernel
set_option maxRecDepth 20000 in
theorem ggX4_court_X2_isWhole : GoodIn wsX4_court wsX2_isWhole := goodIn_r _ [10, 11, 12, 13, 14, 9, 15, 16, 17, 18, 19, 20, 21, 22, 23, 24, 25, 26, 27, 28, 29, 30, 31, 32, 87, 88] (by decide +kernel) (by decide +kernel)
set_option maxRecDepth 20000 in
theorem gX4_court_X2_isWhole : GoodIn wsX4_court (wsV RX4 67 RX2 yX2_isWhole wsX2_isWhole) := goodIn_app (goodIn_of _ (by decide +kernel)) ggX4_court_X2_isWhole
set_option maxRecDepth 20000 in
theorem ggX4_court_X0_sitDown : GoodIn wsX4_court wsX0_sitDown := goodIn_r _ [37, 38, 39, 40, 41, 42, 43, 44, 45, 46, 13, 14, 9, 15, 11, 16, 17, 18, 19, 47, 28, 29, 48, 49, 87, 88, 83, 84, 85, 86] (by decide +kernel) (by decide +kernel)
set_option maxRecDepth 20000 in
theorem gX4_court_X0_sitDown : GoodIn wsX4_court (wsV RX4 71 RX0 yX0_sitDown wsX0_sitDown) := goodIn_app (goodIn_of _ (by decide +kernel)) ggX4_court_X0_sitDown
set_option maxRecDepth 20000 in
theorem ggX4_court_X2_wipe : GoodIn wsX4_court wsX2_wipe := goodIn_r _ [53, 11, 87, 88] (by decide +kernel) (by decide +kernel)
set_option maxRecDepth 20000 in
theorem gX4_court_X2_wipe : GoodIn wsX4_court (wsV RX4 60 RX2 yX2_wipe wsX2_wipe) := goodIn_app (goodIn_of _ (by decide +kernel)) ggX4_court_X2_wipe
set_option maxRecDepth 20000 in
theorem ggX4_court_X3_beginAll : GoodIn wsX4_court wsX3_beginAll := goodIn_r _ [58, 59, 60, 61, 62, 63, 64, 65, 66, 67, 57, 68, 69, 70, 71, 72, 73, 18, 74, 89, 90, 91, 92, 93, 94, 95, 96, 97, 98, 99, 100] (by decide +kernel) (by decide +kernel)
set_option maxRecDepth 20000 in
theorem gX4_court_X3_beginAll : GoodIn wsX4_court (wsV RX4 75 RX3 yX3_beginAll wsX3_beginAll) := goodIn_app (goodIn_of _ (by decide +kernel)) ggX4_court_X3_beginAll
theorem dX4_court_0 : decode cX4_court 0 = .ok (.aload_n 0, 1) := by decide +kernel
theorem dX4_court_1 : decode cX4_court 1 = .ok (.getfield 10, 3) := by decide +kernel
theorem dX4_court_4 : decode cX4_court 4 = .ok (.invokevirtual 67, 3) := by decide +kernel
theorem dX4_court_7 : decode cX4_court 7 = .ok (.ifCond .ne 6, 3) := by decide +kernel
theorem dX4_court_10 : decode cX4_court 10 = .ok (.bipush (-103), 2) := by decide +kernel
theorem dX4_court_12 : decode cX4_court 12 = .ok (.ireturn, 1) := by decide +kernel
theorem dX4_court_13 : decode cX4_court 13 = .ok (.aload_n 0, 1) := by decide +kernel
theorem dX4_court_14 : decode cX4_court 14 = .ok (.getfield 19, 3) := by decide +kernel
theorem dX4_court_17 : decode cX4_court 17 = .ok (.aload_n 0, 1) := by decide +kernel
theorem dX4_court_18 : decode cX4_court 18 = .ok (.getfield 10, 3) := by decide +kernel
theorem dX4_court_21 : decode cX4_court 21 = .ok (.invokevirtual 71, 3) := by decide +kernel
theorem dX4_court_24 : decode cX4_court 24 = .ok (.aload_n 0, 1) := by decide +kernel
theorem dX4_court_25 : decode cX4_court 25 = .ok (.getfield 10, 3) := by decide +kernel
theorem dX4_court_28 : decode cX4_court 28 = .ok (.invokevirtual 60, 3) := by decide +kernel
theorem dX4_court_31 : decode cX4_court 31 = .ok (.aload_n 0, 1) := by decide +kernel
theorem dX4_court_32 : decode cX4_court 32 = .ok (.getfield 26, 3) := by decide +kernel
theorem dX4_court_35 : decode cX4_court 35 = .ok (.invokevirtual 75, 3) := by decide +kernel
theorem dX4_court_38 : decode cX4_court 38 = .ok (.aload_n 0, 1) := by decide +kernel
theorem dX4_court_39 : decode cX4_court 39 = .ok (.iconst 0, 1) := by decide +kernel
theorem dX4_court_40 : decode cX4_court 40 = .ok (.putfield 45, 3) := by decide +kernel
theorem dX4_court_43 : decode cX4_court 43 = .ok (.aload_n 0, 1) := by decide +kernel
theorem dX4_court_44 : decode cX4_court 44 = .ok (.dup, 1) := by decide +kernel
theorem dX4_court_45 : decode cX4_court 45 = .ok (.getfield 49, 3) := by decide +kernel
theorem dX4_court_48 : decode cX4_court 48 = .ok (.iconst 1, 1) := by decide +kernel
theorem dX4_court_49 : decode cX4_court 49 = .ok (.iadd, 1) := by decide +kernel
theorem dX4_court_50 : decode cX4_court 50 = .ok (.putfield 49, 3) := by decide +kernel
theorem dX4_court_53 : decode cX4_court 53 = .ok (.aload_n 0, 1) := by decide +kernel
theorem dX4_court_54 : decode cX4_court 54 = .ok (.getfield 19, 3) := by decide +kernel
theorem dX4_court_57 : decode cX4_court 57 = .ok (.getfield 78, 3) := by decide +kernel
theorem dX4_court_60 : decode cX4_court 60 = .ok (.ireturn, 1) := by decide +kernel
set_option maxRecDepth 20000 in
theorem ggX4_seat_X0_has : GoodIn wsX4_seat wsX0_has := goodIn_r _ [8, 9, 98, 99, 100, 101] (by decide +kernel) (by decide +kernel)
set_option maxRecDepth 20000 in
theorem gX4_seat_X0_has : GoodIn wsX4_seat (wsV RX4 81 RX0 yX0_has wsX0_has) := goodIn_app (goodIn_of _ (by decide +kernel)) ggX4_seat_X0_has
set_option maxRecDepth 20000 in
theorem ggX4_seat_X0_kindAt : GoodIn wsX4_seat wsX0_kindAt := goodIn_r _ [13, 9, 14, 98, 99, 100, 101] (by decide +kernel) (by decide +kernel)
set_option maxRecDepth 20000 in
theorem gX4_seat_X0_kindAt : GoodIn wsX4_seat (wsV RX4 85 RX0 yX0_kindAt wsX0_kindAt) := goodIn_app (goodIn_of _ (by decide +kernel)) ggX4_seat_X0_kindAt
set_option maxRecDepth 20000 in
theorem ggX4_seat_X0_sideAt : GoodIn wsX4_seat wsX0_sideAt := goodIn_r _ [18, 9, 19, 98, 99, 100, 101] (by decide +kernel) (by decide +kernel)
set_option maxRecDepth 20000 in
theorem gX4_seat_X0_sideAt : GoodIn wsX4_seat (wsV RX4 89 RX0 yX0_sideAt wsX0_sideAt) := goodIn_app (goodIn_of _ (by decide +kernel)) ggX4_seat_X0_sideAt
set_option maxRecDepth 20000 in
theorem ggX4_seat_X4_isIn : GoodIn wsX4_seat wsX4_isIn := goodIn_r _ [23] (by decide +kernel) (by decide +kernel)
set_option maxRecDepth 20000 in
theorem gX4_seat_X4_isIn : GoodIn wsX4_seat (va_wsS RX4 95 yX4_isIn wsX4_isIn) := goodIn_app (goodIn_of _ (by decide +kernel)) ggX4_seat_X4_isIn
set_option maxRecDepth 20000 in
theorem ggX4_seat_X0_counts : GoodIn wsX4_seat wsX0_counts := goodIn_r _ [27, 28, 11, 12, 7, 13, 9, 14, 21, 22, 23, 29, 30, 31, 32, 98, 99, 100, 101] (by decide +kernel) (by decide +kernel)
set_option maxRecDepth 20000 in
theorem gX4_seat_X0_counts : GoodIn wsX4_seat (wsV RX4 102 RX0 yX0_counts wsX0_counts) := goodIn_app (goodIn_of _ (by decide +kernel)) ggX4_seat_X0_counts
set_option maxRecDepth 20000 in
theorem ggX4_seat_X4_at : GoodIn wsX4_seat wsX4_at := goodIn_r _ [35] (by decide +kernel) (by decide +kernel)
set_option maxRecDepth 20000 in
theorem gX4_seat_X4_at : GoodIn wsX4_seat (va_wsS RX4 110 yX4_at wsX4_at) := goodIn_app (goodIn_of _ (by decide +kernel)) ggX4_seat_X4_at
set_option maxRecDepth 20000 in
theorem ggX4_seat_X1_aimAt : GoodIn wsX4_seat wsX1_aimAt := goodIn_r _ [40, 41, 42, 43, 44, 45, 46, 47, 48, 39, 49, 50, 51, 52, 53, 54, 25, 26, 7, 27, 28, 11, 12, 13, 9, 14, 21, 22, 23, 29, 30, 31, 32, 55, 56, 57, 58, 59, 60, 61, 62, 63, 64, 65, 66, 67, 68, 69, 70, 71, 72, 73, 34, 35, 102, 103, 104, 105, 106, 107, 108, 109, 110, 111, 86, 87, 88, 89, 90, 91, 92, 93, 94, 95, 96, 97, 98, 99, 100, 101] (by decide +kernel) (by decide +kernel)
set_option maxRecDepth 20000 in
theorem gX4_seat_X1_aimAt : GoodIn wsX4_seat (wsV RX4 114 RX1 yX1_aimAt wsX1_aimAt) := goodIn_app (goodIn_of _ (by decide +kernel)) ggX4_seat_X1_aimAt
set_option maxRecDepth 20000 in
theorem ggX4_seat_X1_fewestWords : GoodIn wsX4_seat wsX1_fewestWords := goodIn_r _ [77, 51, 41, 34, 22, 35, 102, 103, 104, 105, 106, 107, 108, 109, 110, 111, 86, 87, 88, 89, 90, 91, 92, 93, 94, 95, 96, 97] (by decide +kernel) (by decide +kernel)
set_option maxRecDepth 20000 in
theorem gX4_seat_X1_fewestWords : GoodIn wsX4_seat (wsV RX4 117 RX1 yX1_fewestWords wsX1_fewestWords) := goodIn_app (goodIn_of _ (by decide +kernel)) ggX4_seat_X1_fewestWords
theorem dX4_seat_0 : decode cX4_seat 0 = .ok (.aload_n 0, 1) := by decide +kernel
theorem dX4_seat_1 : decode cX4_seat 1 = .ok (.getfield 19, 3) := by decide +kernel
theorem dX4_seat_4 : decode cX4_seat 4 = .ok (.iload_n 1, 1) := by decide +kernel
theorem dX4_seat_5 : decode cX4_seat 5 = .ok (.invokevirtual 81, 3) := by decide +kernel
theorem dX4_seat_8 : decode cX4_seat 8 = .ok (.ifCond .ne 6, 3) := by decide +kernel
theorem dX4_seat_11 : decode cX4_seat 11 = .ok (.bipush (-101), 2) := by decide +kernel
theorem dX4_seat_13 : decode cX4_seat 13 = .ok (.ireturn, 1) := by decide +kernel
theorem dX4_seat_14 : decode cX4_seat 14 = .ok (.iload_n 2, 1) := by decide +kernel
theorem dX4_seat_15 : decode cX4_seat 15 = .ok (.tableswitch 135 0 5 #[37, 46, 55, 75, 106, 118], 37) := by decide +kernel
theorem dX4_seat_52 : decode cX4_seat 52 = .ok (.aload_n 0, 1) := by decide +kernel
theorem dX4_seat_53 : decode cX4_seat 53 = .ok (.getfield 19, 3) := by decide +kernel
theorem dX4_seat_56 : decode cX4_seat 56 = .ok (.iload_n 1, 1) := by decide +kernel
theorem dX4_seat_57 : decode cX4_seat 57 = .ok (.invokevirtual 85, 3) := by decide +kernel
theorem dX4_seat_60 : decode cX4_seat 60 = .ok (.ireturn, 1) := by decide +kernel
theorem dX4_seat_61 : decode cX4_seat 61 = .ok (.aload_n 0, 1) := by decide +kernel
theorem dX4_seat_62 : decode cX4_seat 62 = .ok (.getfield 19, 3) := by decide +kernel
theorem dX4_seat_65 : decode cX4_seat 65 = .ok (.iload_n 1, 1) := by decide +kernel
theorem dX4_seat_66 : decode cX4_seat 66 = .ok (.invokevirtual 89, 3) := by decide +kernel
theorem dX4_seat_69 : decode cX4_seat 69 = .ok (.ireturn, 1) := by decide +kernel
theorem dX4_seat_70 : decode cX4_seat 70 = .ok (.iload_n 1, 1) := by decide +kernel
theorem dX4_seat_71 : decode cX4_seat 71 = .ok (.aload_n 0, 1) := by decide +kernel
theorem dX4_seat_72 : decode cX4_seat 72 = .ok (.getfield 26, 3) := by decide +kernel
theorem dX4_seat_75 : decode cX4_seat 75 = .ok (.getfield 92, 3) := by decide +kernel
theorem dX4_seat_78 : decode cX4_seat 78 = .ok (.invokestatic 95, 3) := by decide +kernel
theorem dX4_seat_81 : decode cX4_seat 81 = .ok (.ifCond .eq 7, 3) := by decide +kernel
theorem dX4_seat_84 : decode cX4_seat 84 = .ok (.iconst 1, 1) := by decide +kernel
theorem dX4_seat_85 : decode cX4_seat 85 = .ok (.goto 4, 3) := by decide +kernel
theorem dX4_seat_88 : decode cX4_seat 88 = .ok (.iconst 0, 1) := by decide +kernel
theorem dX4_seat_89 : decode cX4_seat 89 = .ok (.ireturn, 1) := by decide +kernel
theorem dX4_seat_90 : decode cX4_seat 90 = .ok (.aload_n 0, 1) := by decide +kernel
theorem dX4_seat_91 : decode cX4_seat 91 = .ok (.getfield 19, 3) := by decide +kernel
theorem dX4_seat_94 : decode cX4_seat 94 = .ok (.iload_n 1, 1) := by decide +kernel
theorem dX4_seat_95 : decode cX4_seat 95 = .ok (.aload_n 0, 1) := by decide +kernel
theorem dX4_seat_96 : decode cX4_seat 96 = .ok (.getfield 26, 3) := by decide +kernel
theorem dX4_seat_99 : decode cX4_seat 99 = .ok (.getfield 99, 3) := by decide +kernel
theorem dX4_seat_102 : decode cX4_seat 102 = .ok (.aload_n 0, 1) := by decide +kernel
theorem dX4_seat_103 : decode cX4_seat 103 = .ok (.getfield 26, 3) := by decide +kernel
theorem dX4_seat_106 : decode cX4_seat 106 = .ok (.getfield 92, 3) := by decide +kernel
theorem dX4_seat_109 : decode cX4_seat 109 = .ok (.invokevirtual 102, 3) := by decide +kernel
theorem dX4_seat_112 : decode cX4_seat 112 = .ok (.ifCond .eq 7, 3) := by decide +kernel
theorem dX4_seat_115 : decode cX4_seat 115 = .ok (.iconst 1, 1) := by decide +kernel
theorem dX4_seat_116 : decode cX4_seat 116 = .ok (.goto 4, 3) := by decide +kernel
theorem dX4_seat_119 : decode cX4_seat 119 = .ok (.iconst 0, 1) := by decide +kernel
theorem dX4_seat_120 : decode cX4_seat 120 = .ok (.ireturn, 1) := by decide +kernel
theorem dX4_seat_121 : decode cX4_seat 121 = .ok (.aload_n 0, 1) := by decide +kernel
theorem dX4_seat_122 : decode cX4_seat 122 = .ok (.getfield 26, 3) := by decide +kernel
theorem dX4_seat_125 : decode cX4_seat 125 = .ok (.getfield 106, 3) := by decide +kernel
theorem dX4_seat_128 : decode cX4_seat 128 = .ok (.iload_n 1, 1) := by decide +kernel
theorem dX4_seat_129 : decode cX4_seat 129 = .ok (.invokestatic 110, 3) := by decide +kernel
theorem dX4_seat_132 : decode cX4_seat 132 = .ok (.ireturn, 1) := by decide +kernel
theorem dX4_seat_133 : decode cX4_seat 133 = .ok (.aload_n 0, 1) := by decide +kernel
theorem dX4_seat_134 : decode cX4_seat 134 = .ok (.getfield 41, 3) := by decide +kernel
theorem dX4_seat_137 : decode cX4_seat 137 = .ok (.iload_n 1, 1) := by decide +kernel
theorem dX4_seat_138 : decode cX4_seat 138 = .ok (.invokevirtual 114, 3) := by decide +kernel
theorem dX4_seat_141 : decode cX4_seat 141 = .ok (.aload_n 0, 1) := by decide +kernel
theorem dX4_seat_142 : decode cX4_seat 142 = .ok (.getfield 41, 3) := by decide +kernel
theorem dX4_seat_145 : decode cX4_seat 145 = .ok (.iload_n 1, 1) := by decide +kernel
theorem dX4_seat_146 : decode cX4_seat 146 = .ok (.invokevirtual 117, 3) := by decide +kernel
theorem dX4_seat_149 : decode cX4_seat 149 = .ok (.ireturn, 1) := by decide +kernel
theorem dX4_seat_150 : decode cX4_seat 150 = .ok (.bipush (-102), 2) := by decide +kernel
theorem dX4_seat_152 : decode cX4_seat 152 = .ok (.ireturn, 1) := by decide +kernel
set_option maxRecDepth 20000 in
theorem ggX4_as_X0_has : GoodIn wsX4_as wsX0_has := goodIn_r _ [6, 7, 26, 27, 28, 29] (by decide +kernel) (by decide +kernel)
set_option maxRecDepth 20000 in
theorem gX4_as_X0_has : GoodIn wsX4_as (wsV RX4 81 RX0 yX0_has wsX0_has) := goodIn_app (goodIn_of _ (by decide +kernel)) ggX4_as_X0_has
set_option maxRecDepth 20000 in
theorem ggX4_as_X0_isOf : GoodIn wsX4_as wsX0_isOf := goodIn_r _ [11, 12, 13, 14, 5, 15, 7, 16, 17, 3, 4, 6, 26, 27, 28, 29] (by decide +kernel) (by decide +kernel)
set_option maxRecDepth 20000 in
theorem gX4_as_X0_isOf : GoodIn wsX4_as (wsV RX4 120 RX0 yX0_isOf wsX0_isOf) := goodIn_app (goodIn_of _ (by decide +kernel)) ggX4_as_X0_isOf
theorem dX4_as_0 : decode cX4_as 0 = .ok (.aload_n 0, 1) := by decide +kernel
theorem dX4_as_1 : decode cX4_as 1 = .ok (.getfield 19, 3) := by decide +kernel
theorem dX4_as_4 : decode cX4_as 4 = .ok (.iload_n 1, 1) := by decide +kernel
theorem dX4_as_5 : decode cX4_as 5 = .ok (.invokevirtual 81, 3) := by decide +kernel
theorem dX4_as_8 : decode cX4_as 8 = .ok (.ifCond .ne 6, 3) := by decide +kernel
theorem dX4_as_11 : decode cX4_as 11 = .ok (.bipush (-101), 2) := by decide +kernel
theorem dX4_as_13 : decode cX4_as 13 = .ok (.ireturn, 1) := by decide +kernel
theorem dX4_as_14 : decode cX4_as 14 = .ok (.iload_n 2, 1) := by decide +kernel
theorem dX4_as_15 : decode cX4_as 15 = .ok (.ifCond .lt 8, 3) := by decide +kernel
theorem dX4_as_18 : decode cX4_as 18 = .ok (.iload_n 2, 1) := by decide +kernel
theorem dX4_as_19 : decode cX4_as 19 = .ok (.iconst 5, 1) := by decide +kernel
theorem dX4_as_20 : decode cX4_as 20 = .ok (.if_icmp .lt 6, 3) := by decide +kernel
theorem dX4_as_23 : decode cX4_as 23 = .ok (.bipush (-102), 2) := by decide +kernel
theorem dX4_as_25 : decode cX4_as 25 = .ok (.ireturn, 1) := by decide +kernel
theorem dX4_as_26 : decode cX4_as 26 = .ok (.aload_n 0, 1) := by decide +kernel
theorem dX4_as_27 : decode cX4_as 27 = .ok (.getfield 19, 3) := by decide +kernel
theorem dX4_as_30 : decode cX4_as 30 = .ok (.iload_n 1, 1) := by decide +kernel
theorem dX4_as_31 : decode cX4_as 31 = .ok (.iload_n 2, 1) := by decide +kernel
theorem dX4_as_32 : decode cX4_as 32 = .ok (.invokevirtual 120, 3) := by decide +kernel
theorem dX4_as_35 : decode cX4_as 35 = .ok (.ifCond .eq 7, 3) := by decide +kernel
theorem dX4_as_38 : decode cX4_as 38 = .ok (.iload_n 1, 1) := by decide +kernel
theorem dX4_as_39 : decode cX4_as 39 = .ok (.goto 4, 3) := by decide +kernel
theorem dX4_as_42 : decode cX4_as 42 = .ok (.iconst (-1), 1) := by decide +kernel
theorem dX4_as_43 : decode cX4_as 43 = .ok (.ireturn, 1) := by decide +kernel
set_option maxRecDepth 20000 in
theorem ggX4_breath_X0_namesOnlySeats : GoodIn wsX4_breath wsX0_namesOnlySeats := goodIn_r _ [7, 8, 84, 85, 86, 87] (by decide +kernel) (by decide +kernel)
set_option maxRecDepth 20000 in
theorem gX4_breath_X0_namesOnlySeats : GoodIn wsX4_breath (wsV RX4 123 RX0 yX0_namesOnlySeats wsX0_namesOnlySeats) := goodIn_app (goodIn_of _ (by decide +kernel)) ggX4_breath_X0_namesOnlySeats
set_option maxRecDepth 20000 in
theorem ggX4_breath_X0_isSet : GoodIn wsX4_breath wsX0_isSet := goodIn_r _ [12, 8, 84, 85, 86, 87] (by decide +kernel) (by decide +kernel)
set_option maxRecDepth 20000 in
theorem gX4_breath_X0_isSet : GoodIn wsX4_breath (wsV RX4 126 RX0 yX0_isSet wsX0_isSet) := goodIn_app (goodIn_of _ (by decide +kernel)) ggX4_breath_X0_isSet
set_option maxRecDepth 20000 in
theorem ggX4_breath_X3_breathe : GoodIn wsX4_breath wsX3_breathe := goodIn_r _ [17, 18, 19, 20, 21, 22, 23, 24, 25, 26, 27, 6, 28, 29, 30, 31, 32, 8, 33, 34, 35, 36, 37, 38, 39, 40, 16, 41, 42, 43, 44, 45, 46, 47, 48, 49, 50, 51, 52, 53, 54, 55, 56, 57, 58, 59, 60, 61, 62, 63, 64, 65, 66, 67, 68, 69, 70, 71, 72, 73, 74, 75, 88, 89, 90, 91, 92, 93, 94, 95, 96, 97, 98, 99, 84, 85, 86, 87] (by decide +kernel) (by decide +kernel)
set_option maxRecDepth 20000 in
theorem gX4_breath_X3_breathe : GoodIn wsX4_breath (wsV RX4 129 RX3 yX3_breathe wsX3_breathe) := goodIn_app (goodIn_of _ (by decide +kernel)) ggX4_breath_X3_breathe
theorem dX4_breath_0 : decode cX4_breath 0 = .ok (.aload_n 0, 1) := by decide +kernel
theorem dX4_breath_1 : decode cX4_breath 1 = .ok (.getfield 19, 3) := by decide +kernel
theorem dX4_breath_4 : decode cX4_breath 4 = .ok (.iload_n 1, 1) := by decide +kernel
theorem dX4_breath_5 : decode cX4_breath 5 = .ok (.invokevirtual 123, 3) := by decide +kernel
theorem dX4_breath_8 : decode cX4_breath 8 = .ok (.ifCond .ne 6, 3) := by decide +kernel
theorem dX4_breath_11 : decode cX4_breath 11 = .ok (.bipush (-102), 2) := by decide +kernel
theorem dX4_breath_13 : decode cX4_breath 13 = .ok (.ireturn, 1) := by decide +kernel
theorem dX4_breath_14 : decode cX4_breath 14 = .ok (.aload_n 0, 1) := by decide +kernel
theorem dX4_breath_15 : decode cX4_breath 15 = .ok (.getfield 19, 3) := by decide +kernel
theorem dX4_breath_18 : decode cX4_breath 18 = .ok (.invokevirtual 126, 3) := by decide +kernel
theorem dX4_breath_21 : decode cX4_breath 21 = .ok (.ifCond .ne 6, 3) := by decide +kernel
theorem dX4_breath_24 : decode cX4_breath 24 = .ok (.bipush (-103), 2) := by decide +kernel
theorem dX4_breath_26 : decode cX4_breath 26 = .ok (.ireturn, 1) := by decide +kernel
theorem dX4_breath_27 : decode cX4_breath 27 = .ok (.aload_n 0, 1) := by decide +kernel
theorem dX4_breath_28 : decode cX4_breath 28 = .ok (.getfield 26, 3) := by decide +kernel
theorem dX4_breath_31 : decode cX4_breath 31 = .ok (.aload_n 0, 1) := by decide +kernel
theorem dX4_breath_32 : decode cX4_breath 32 = .ok (.getfield 19, 3) := by decide +kernel
theorem dX4_breath_35 : decode cX4_breath 35 = .ok (.iload_n 1, 1) := by decide +kernel
theorem dX4_breath_36 : decode cX4_breath 36 = .ok (.invokevirtual 129, 3) := by decide +kernel
theorem dX4_breath_39 : decode cX4_breath 39 = .ok (.ireturn, 1) := by decide +kernel
set_option maxRecDepth 20000 in
theorem ggX4_get_X0_has : GoodIn wsX4_get wsX0_has := goodIn_r _ [7, 8, 81, 82, 83, 84] (by decide +kernel) (by decide +kernel)
set_option maxRecDepth 20000 in
theorem gX4_get_X0_has : GoodIn wsX4_get (wsV RX4 81 RX0 yX0_has wsX0_has) := goodIn_app (goodIn_of _ (by decide +kernel)) ggX4_get_X0_has
set_option maxRecDepth 20000 in
theorem ggX4_get_X1_aimAt : GoodIn wsX4_get wsX1_aimAt := goodIn_r _ [13, 14, 15, 16, 17, 18, 19, 20, 21, 12, 22, 23, 24, 25, 26, 27, 28, 29, 6, 30, 31, 32, 33, 34, 8, 35, 36, 37, 38, 39, 40, 41, 42, 43, 44, 45, 46, 47, 48, 49, 50, 51, 52, 53, 54, 55, 56, 57, 58, 59, 60, 61, 62, 63, 85, 86, 87, 88, 89, 90, 91, 92, 93, 94, 95, 96, 97, 98, 99, 100, 101, 102, 103, 104, 105, 106, 81, 82, 83, 84] (by decide +kernel) (by decide +kernel)
set_option maxRecDepth 20000 in
theorem gX4_get_X1_aimAt : GoodIn wsX4_get (wsV RX4 114 RX1 yX1_aimAt wsX1_aimAt) := goodIn_app (goodIn_of _ (by decide +kernel)) ggX4_get_X1_aimAt
set_option maxRecDepth 20000 in
theorem ggX4_get_X1_fewestWords : GoodIn wsX4_get wsX1_fewestWords := goodIn_r _ [67, 24, 14, 62, 37, 63, 85, 86, 87, 88, 89, 90, 91, 92, 93, 94, 95, 96, 97, 98, 99, 100, 101, 102, 103, 104, 105, 106] (by decide +kernel) (by decide +kernel)
set_option maxRecDepth 20000 in
theorem gX4_get_X1_fewestWords : GoodIn wsX4_get (wsV RX4 117 RX1 yX1_fewestWords wsX1_fewestWords) := goodIn_app (goodIn_of _ (by decide +kernel)) ggX4_get_X1_fewestWords
set_option maxRecDepth 20000 in
theorem ggX4_get_X1_firstSpeaker : GoodIn wsX4_get wsX1_firstSpeaker := goodIn_r _ [71, 24, 72, 65, 66, 12, 67, 14, 62, 37, 63, 58, 59, 60, 61, 25, 26, 15, 16, 17, 18, 43, 44, 45, 85, 86, 87, 88, 89, 90, 91, 92, 93, 94, 95, 96, 97, 98, 99, 100, 101, 102, 103, 104, 105, 106] (by decide +kernel) (by decide +kernel)
set_option maxRecDepth 20000 in
theorem gX4_get_X1_firstSpeaker : GoodIn wsX4_get (wsV RX4 133 RX1 yX1_firstSpeaker wsX1_firstSpeaker) := goodIn_app (goodIn_of _ (by decide +kernel)) ggX4_get_X1_firstSpeaker
theorem dX4_get_0 : decode cX4_get 0 = .ok (.aload_n 0, 1) := by decide +kernel
theorem dX4_get_1 : decode cX4_get 1 = .ok (.getfield 19, 3) := by decide +kernel
theorem dX4_get_4 : decode cX4_get 4 = .ok (.iload_n 1, 1) := by decide +kernel
theorem dX4_get_5 : decode cX4_get 5 = .ok (.invokevirtual 81, 3) := by decide +kernel
theorem dX4_get_8 : decode cX4_get 8 = .ok (.ifCond .ne 6, 3) := by decide +kernel
theorem dX4_get_11 : decode cX4_get 11 = .ok (.bipush (-101), 2) := by decide +kernel
theorem dX4_get_13 : decode cX4_get 13 = .ok (.ireturn, 1) := by decide +kernel
theorem dX4_get_14 : decode cX4_get 14 = .ok (.iload_n 2, 1) := by decide +kernel
theorem dX4_get_15 : decode cX4_get 15 = .ok (.ifCond .eq 11, 3) := by decide +kernel
theorem dX4_get_18 : decode cX4_get 18 = .ok (.iload_n 2, 1) := by decide +kernel
theorem dX4_get_19 : decode cX4_get 19 = .ok (.iconst 1, 1) := by decide +kernel
theorem dX4_get_20 : decode cX4_get 20 = .ok (.if_icmp .eq 6, 3) := by decide +kernel
theorem dX4_get_23 : decode cX4_get 23 = .ok (.bipush (-102), 2) := by decide +kernel
theorem dX4_get_25 : decode cX4_get 25 = .ok (.ireturn, 1) := by decide +kernel
theorem dX4_get_26 : decode cX4_get 26 = .ok (.aload_n 0, 1) := by decide +kernel
theorem dX4_get_27 : decode cX4_get 27 = .ok (.getfield 41, 3) := by decide +kernel
theorem dX4_get_30 : decode cX4_get 30 = .ok (.iload_n 1, 1) := by decide +kernel
theorem dX4_get_31 : decode cX4_get 31 = .ok (.invokevirtual 114, 3) := by decide +kernel
theorem dX4_get_34 : decode cX4_get 34 = .ok (.iload_n 2, 1) := by decide +kernel
theorem dX4_get_35 : decode cX4_get 35 = .ok (.ifCond .ne 14, 3) := by decide +kernel
theorem dX4_get_38 : decode cX4_get 38 = .ok (.aload_n 0, 1) := by decide +kernel
theorem dX4_get_39 : decode cX4_get 39 = .ok (.getfield 41, 3) := by decide +kernel
theorem dX4_get_42 : decode cX4_get 42 = .ok (.iload_n 1, 1) := by decide +kernel
theorem dX4_get_43 : decode cX4_get 43 = .ok (.invokevirtual 117, 3) := by decide +kernel
theorem dX4_get_46 : decode cX4_get 46 = .ok (.goto 11, 3) := by decide +kernel
theorem dX4_get_49 : decode cX4_get 49 = .ok (.aload_n 0, 1) := by decide +kernel
theorem dX4_get_50 : decode cX4_get 50 = .ok (.getfield 41, 3) := by decide +kernel
theorem dX4_get_53 : decode cX4_get 53 = .ok (.iload_n 1, 1) := by decide +kernel
theorem dX4_get_54 : decode cX4_get 54 = .ok (.invokevirtual 133, 3) := by decide +kernel
theorem dX4_get_57 : decode cX4_get 57 = .ok (.ireturn, 1) := by decide +kernel
set_option maxRecDepth 20000 in
theorem ggX4_play_X0_isSet : GoodIn wsX4_play wsX0_isSet := goodIn_r _ [7, 8, 113, 114, 115, 116] (by decide +kernel) (by decide +kernel)
set_option maxRecDepth 20000 in
theorem gX4_play_X0_isSet : GoodIn wsX4_play (wsV RX4 126 RX0 yX0_isSet wsX0_isSet) := goodIn_app (goodIn_of _ (by decide +kernel)) ggX4_play_X0_isSet
set_option maxRecDepth 20000 in
theorem ggX4_play_X1_weighReplies : GoodIn wsX4_play wsX1_weighReplies := goodIn_r _ [13, 14, 15, 16, 17, 12, 18, 19, 20, 21, 22, 23, 24, 25, 6, 26, 27, 28, 29, 30, 8, 31, 32, 33, 34, 35, 36, 37, 38, 39, 40, 41, 42, 43, 44, 45, 46, 47, 48, 49, 50, 51, 52, 53, 54, 55, 56, 57, 58, 59, 60, 61, 62, 63, 64, 65, 66, 67, 68, 69, 70, 71, 72, 73, 74, 75, 76, 77, 78, 79, 80, 81, 82, 83, 84, 85, 86, 87, 88, 89, 90, 91, 92, 93, 94, 95, 117, 118, 119, 120, 121, 122, 123, 124, 125, 126, 127, 128, 129, 130, 131, 132, 133, 134, 135, 136, 137, 138, 113, 114, 115, 116] (by decide +kernel) (by decide +kernel)
set_option maxRecDepth 20000 in
theorem gX4_play_X1_weighReplies : GoodIn wsX4_play (wsV RX4 136 RX1 yX1_weighReplies wsX1_weighReplies) := goodIn_app (goodIn_of _ (by decide +kernel)) ggX4_play_X1_weighReplies
set_option maxRecDepth 20000 in
theorem ggX4_play_X1_bestWorth : GoodIn wsX4_play wsX1_bestWorth := goodIn_r _ [99, 14, 20, 52, 53, 12, 54, 77, 33, 78, 69, 70, 71, 72, 73, 74, 75, 76, 19, 21, 59, 60, 61, 6, 62, 8, 63, 39, 40, 41, 79, 80, 81, 82, 22, 83, 84, 85, 86, 87, 88, 89, 90, 91, 92, 117, 118, 119, 120, 121, 122, 123, 124, 125, 126, 127, 128, 129, 130, 131, 132, 133, 134, 135, 136, 137, 138, 113, 114, 115, 116] (by decide +kernel) (by decide +kernel)
set_option maxRecDepth 20000 in
theorem gX4_play_X1_bestWorth : GoodIn wsX4_play (wsV RX4 139 RX1 yX1_bestWorth wsX1_bestWorth) := goodIn_app (goodIn_of _ (by decide +kernel)) ggX4_play_X1_bestWorth
set_option maxRecDepth 20000 in
theorem ggX4_play_X1_bestOpening : GoodIn wsX4_play wsX1_bestOpening := goodIn_r _ [103, 14, 20, 104, 97, 98, 12, 99, 52, 53, 54, 77, 33, 78, 69, 70, 71, 72, 73, 74, 75, 76, 19, 21, 59, 60, 61, 6, 62, 8, 63, 39, 40, 41, 79, 80, 81, 82, 22, 83, 84, 85, 86, 87, 88, 89, 90, 91, 92, 117, 118, 119, 120, 121, 122, 123, 124, 125, 126, 127, 128, 129, 130, 131, 132, 133, 134, 135, 136, 137, 138, 113, 114, 115, 116] (by decide +kernel) (by decide +kernel)
set_option maxRecDepth 20000 in
theorem gX4_play_X1_bestOpening : GoodIn wsX4_play (wsV RX4 142 RX1 yX1_bestOpening wsX1_bestOpening) := goodIn_app (goodIn_of _ (by decide +kernel)) ggX4_play_X1_bestOpening
theorem dX4_play_0 : decode cX4_play 0 = .ok (.iload_n 1, 1) := by decide +kernel
theorem dX4_play_1 : decode cX4_play 1 = .ok (.iconst 1, 1) := by decide +kernel
theorem dX4_play_2 : decode cX4_play 2 = .ok (.if_icmp .lt 18, 3) := by decide +kernel
theorem dX4_play_5 : decode cX4_play 5 = .ok (.iload_n 1, 1) := by decide +kernel
theorem dX4_play_6 : decode cX4_play 6 = .ok (.bipush 6, 2) := by decide +kernel
theorem dX4_play_8 : decode cX4_play 8 = .ok (.if_icmp .gt 12, 3) := by decide +kernel
theorem dX4_play_11 : decode cX4_play 11 = .ok (.iload_n 2, 1) := by decide +kernel
theorem dX4_play_12 : decode cX4_play 12 = .ok (.ifCond .eq 11, 3) := by decide +kernel
theorem dX4_play_15 : decode cX4_play 15 = .ok (.iload_n 2, 1) := by decide +kernel
theorem dX4_play_16 : decode cX4_play 16 = .ok (.iconst 1, 1) := by decide +kernel
theorem dX4_play_17 : decode cX4_play 17 = .ok (.if_icmp .eq 6, 3) := by decide +kernel
theorem dX4_play_20 : decode cX4_play 20 = .ok (.bipush (-102), 2) := by decide +kernel
theorem dX4_play_22 : decode cX4_play 22 = .ok (.ireturn, 1) := by decide +kernel
theorem dX4_play_23 : decode cX4_play 23 = .ok (.aload_n 0, 1) := by decide +kernel
theorem dX4_play_24 : decode cX4_play 24 = .ok (.getfield 19, 3) := by decide +kernel
theorem dX4_play_27 : decode cX4_play 27 = .ok (.invokevirtual 126, 3) := by decide +kernel
theorem dX4_play_30 : decode cX4_play 30 = .ok (.ifCond .ne 6, 3) := by decide +kernel
theorem dX4_play_33 : decode cX4_play 33 = .ok (.bipush (-103), 2) := by decide +kernel
theorem dX4_play_35 : decode cX4_play 35 = .ok (.ireturn, 1) := by decide +kernel
theorem dX4_play_36 : decode cX4_play 36 = .ok (.aload_n 0, 1) := by decide +kernel
theorem dX4_play_37 : decode cX4_play 37 = .ok (.getfield 41, 3) := by decide +kernel
theorem dX4_play_40 : decode cX4_play 40 = .ok (.iload_n 1, 1) := by decide +kernel
theorem dX4_play_41 : decode cX4_play 41 = .ok (.invokevirtual 136, 3) := by decide +kernel
theorem dX4_play_44 : decode cX4_play 44 = .ok (.iload_n 2, 1) := by decide +kernel
theorem dX4_play_45 : decode cX4_play 45 = .ok (.ifCond .ne 15, 3) := by decide +kernel
theorem dX4_play_48 : decode cX4_play 48 = .ok (.aload_n 0, 1) := by decide +kernel
theorem dX4_play_49 : decode cX4_play 49 = .ok (.getfield 41, 3) := by decide +kernel
theorem dX4_play_52 : decode cX4_play 52 = .ok (.invokevirtual 139, 3) := by decide +kernel
theorem dX4_play_55 : decode cX4_play 55 = .ok (.iconst 1, 1) := by decide +kernel
theorem dX4_play_56 : decode cX4_play 56 = .ok (.iadd, 1) := by decide +kernel
theorem dX4_play_57 : decode cX4_play 57 = .ok (.goto 10, 3) := by decide +kernel
theorem dX4_play_60 : decode cX4_play 60 = .ok (.aload_n 0, 1) := by decide +kernel
theorem dX4_play_61 : decode cX4_play 61 = .ok (.getfield 41, 3) := by decide +kernel
theorem dX4_play_64 : decode cX4_play 64 = .ok (.invokevirtual 142, 3) := by decide +kernel
theorem dX4_play_67 : decode cX4_play 67 = .ok (.ireturn, 1) := by decide +kernel
set_option maxRecDepth 20000 in
theorem ggX4_hear_X0_has : GoodIn wsX4_hear wsX0_has := goodIn_r _ [7, 8, 40, 41, 42, 43] (by decide +kernel) (by decide +kernel)
set_option maxRecDepth 20000 in
theorem gX4_hear_X0_has : GoodIn wsX4_hear (wsV RX4 81 RX0 yX0_has wsX0_has) := goodIn_app (goodIn_of _ (by decide +kernel)) ggX4_hear_X0_has
set_option maxRecDepth 20000 in
theorem ggX4_hear_X3_tell : GoodIn wsX4_hear wsX3_tell := goodIn_r _ [13, 14, 15, 16, 17, 18, 19, 28, 29, 30, 31, 32, 33, 34, 35, 36, 37, 38, 39] (by decide +kernel) (by decide +kernel)
set_option maxRecDepth 20000 in
theorem gX4_hear_X3_tell : GoodIn wsX4_hear (wsV RX4 148 RX3 yX3_tell wsX3_tell) := goodIn_app (goodIn_of _ (by decide +kernel)) ggX4_hear_X3_tell
theorem dX4_hear_0 : decode cX4_hear 0 = .ok (.iload_n 1, 1) := by decide +kernel
theorem dX4_hear_1 : decode cX4_hear 1 = .ok (.ifCond .lt 9, 3) := by decide +kernel
theorem dX4_hear_4 : decode cX4_hear 4 = .ok (.iload_n 1, 1) := by decide +kernel
theorem dX4_hear_5 : decode cX4_hear 5 = .ok (.bipush 8, 2) := by decide +kernel
theorem dX4_hear_7 : decode cX4_hear 7 = .ok (.if_icmp .le 6, 3) := by decide +kernel
theorem dX4_hear_10 : decode cX4_hear 10 = .ok (.bipush (-102), 2) := by decide +kernel
theorem dX4_hear_12 : decode cX4_hear 12 = .ok (.ireturn, 1) := by decide +kernel
theorem dX4_hear_13 : decode cX4_hear 13 = .ok (.iload_n 2, 1) := by decide +kernel
theorem dX4_hear_14 : decode cX4_hear 14 = .ok (.iconst (-1), 1) := by decide +kernel
theorem dX4_hear_15 : decode cX4_hear 15 = .ok (.if_icmp .eq 17, 3) := by decide +kernel
theorem dX4_hear_18 : decode cX4_hear 18 = .ok (.aload_n 0, 1) := by decide +kernel
theorem dX4_hear_19 : decode cX4_hear 19 = .ok (.getfield 19, 3) := by decide +kernel
theorem dX4_hear_22 : decode cX4_hear 22 = .ok (.iload_n 2, 1) := by decide +kernel
theorem dX4_hear_23 : decode cX4_hear 23 = .ok (.invokevirtual 81, 3) := by decide +kernel
theorem dX4_hear_26 : decode cX4_hear 26 = .ok (.ifCond .ne 6, 3) := by decide +kernel
theorem dX4_hear_29 : decode cX4_hear 29 = .ok (.bipush (-101), 2) := by decide +kernel
theorem dX4_hear_31 : decode cX4_hear 31 = .ok (.ireturn, 1) := by decide +kernel
theorem dX4_hear_32 : decode cX4_hear 32 = .ok (.aload_n 0, 1) := by decide +kernel
theorem dX4_hear_33 : decode cX4_hear 33 = .ok (.getfield 26, 3) := by decide +kernel
theorem dX4_hear_36 : decode cX4_hear 36 = .ok (.getfield 145, 3) := by decide +kernel
theorem dX4_hear_39 : decode cX4_hear 39 = .ok (.bipush 8, 2) := by decide +kernel
theorem dX4_hear_41 : decode cX4_hear 41 = .ok (.if_icmp .lt 6, 3) := by decide +kernel
theorem dX4_hear_44 : decode cX4_hear 44 = .ok (.bipush (-104), 2) := by decide +kernel
theorem dX4_hear_46 : decode cX4_hear 46 = .ok (.ireturn, 1) := by decide +kernel
theorem dX4_hear_47 : decode cX4_hear 47 = .ok (.aload_n 0, 1) := by decide +kernel
theorem dX4_hear_48 : decode cX4_hear 48 = .ok (.getfield 26, 3) := by decide +kernel
theorem dX4_hear_51 : decode cX4_hear 51 = .ok (.iload_n 1, 1) := by decide +kernel
theorem dX4_hear_52 : decode cX4_hear 52 = .ok (.iload_n 2, 1) := by decide +kernel
theorem dX4_hear_53 : decode cX4_hear 53 = .ok (.invokevirtual 148, 3) := by decide +kernel
theorem dX4_hear_56 : decode cX4_hear 56 = .ok (.aload_n 0, 1) := by decide +kernel
theorem dX4_hear_57 : decode cX4_hear 57 = .ok (.getfield 26, 3) := by decide +kernel
theorem dX4_hear_60 : decode cX4_hear 60 = .ok (.getfield 145, 3) := by decide +kernel
theorem dX4_hear_63 : decode cX4_hear 63 = .ok (.ireturn, 1) := by decide +kernel
theorem dX4_forget_0 : decode cX4_forget 0 = .ok (.aload_n 0, 1) := by decide +kernel
theorem dX4_forget_1 : decode cX4_forget 1 = .ok (.getfield 26, 3) := by decide +kernel
theorem dX4_forget_4 : decode cX4_forget 4 = .ok (.getfield 145, 3) := by decide +kernel
theorem dX4_forget_7 : decode cX4_forget 7 = .ok (.istore_n 1, 1) := by decide +kernel
theorem dX4_forget_8 : decode cX4_forget 8 = .ok (.aload_n 0, 1) := by decide +kernel
theorem dX4_forget_9 : decode cX4_forget 9 = .ok (.getfield 26, 3) := by decide +kernel
theorem dX4_forget_12 : decode cX4_forget 12 = .ok (.iconst 0, 1) := by decide +kernel
theorem dX4_forget_13 : decode cX4_forget 13 = .ok (.putfield 145, 3) := by decide +kernel
theorem dX4_forget_16 : decode cX4_forget 16 = .ok (.iload_n 1, 1) := by decide +kernel
theorem dX4_forget_17 : decode cX4_forget 17 = .ok (.ireturn, 1) := by decide +kernel
set_option maxRecDepth 20000 in
theorem ggX4_rows_X0_isSet : GoodIn wsX4_rows wsX0_isSet := goodIn_r _ [7, 8, 87, 88, 89, 90] (by decide +kernel) (by decide +kernel)
set_option maxRecDepth 20000 in
theorem gX4_rows_X0_isSet : GoodIn wsX4_rows (wsV RX4 126 RX0 yX0_isSet wsX0_isSet) := goodIn_app (goodIn_of _ (by decide +kernel)) ggX4_rows_X0_isSet
set_option maxRecDepth 20000 in
theorem ggX4_rows_X1_fillWays : GoodIn wsX4_rows wsX1_fillWays := goodIn_r _ [13, 14, 15, 16, 17, 18, 19, 12, 20, 21, 22, 23, 24, 25, 6, 26, 27, 28, 29, 30, 8, 31, 32, 33, 34, 35, 36, 37, 38, 39, 40, 41, 42, 43, 44, 45, 46, 47, 48, 49, 50, 51, 52, 53, 54, 55, 56, 57, 58, 59, 60, 61, 62, 63, 64, 65, 66, 67, 68, 69, 70, 91, 92, 93, 94, 95, 96, 97, 98, 99, 100, 101, 102, 103, 104, 105, 106, 107, 108, 109, 110, 111, 112, 87, 88, 89, 90] (by decide +kernel) (by decide +kernel)
set_option maxRecDepth 20000 in
theorem gX4_rows_X1_fillWays : GoodIn wsX4_rows (wsV RX4 152 RX1 yX1_fillWays wsX1_fillWays) := goodIn_app (goodIn_of _ (by decide +kernel)) ggX4_rows_X1_fillWays
set_option maxRecDepth 20000 in
theorem ggX4_rows_X1_waysOf : GoodIn wsX4_rows wsX1_waysOf := goodIn_r _ [74, 14, 54, 55, 12, 56, 65, 33, 66, 91, 92, 93, 94, 95, 96, 97, 98, 99, 100] (by decide +kernel) (by decide +kernel)
set_option maxRecDepth 20000 in
theorem gX4_rows_X1_waysOf : GoodIn wsX4_rows (wsV RX4 155 RX1 yX1_waysOf wsX1_waysOf) := goodIn_app (goodIn_of _ (by decide +kernel)) ggX4_rows_X1_waysOf
set_option maxRecDepth 20000 in
theorem ggX4_rows_X1_lastsBehind : GoodIn wsX4_rows wsX1_lastsBehind := goodIn_r _ [78, 14, 54, 55, 12, 56, 65, 33, 66, 91, 92, 93, 94, 95, 96, 97, 98, 99, 100] (by decide +kernel) (by decide +kernel)
set_option maxRecDepth 20000 in
theorem gX4_rows_X1_lastsBehind : GoodIn wsX4_rows (wsV RX4 158 RX1 yX1_lastsBehind wsX1_lastsBehind) := goodIn_app (goodIn_of _ (by decide +kernel)) ggX4_rows_X1_lastsBehind
theorem dX4_rows_0 : decode cX4_rows 0 = .ok (.iload_n 1, 1) := by decide +kernel
theorem dX4_rows_1 : decode cX4_rows 1 = .ok (.ifCond .lt 18, 3) := by decide +kernel
theorem dX4_rows_4 : decode cX4_rows 4 = .ok (.iload_n 1, 1) := by decide +kernel
theorem dX4_rows_5 : decode cX4_rows 5 = .ok (.bipush 6, 2) := by decide +kernel
theorem dX4_rows_7 : decode cX4_rows 7 = .ok (.if_icmp .gt 12, 3) := by decide +kernel
theorem dX4_rows_10 : decode cX4_rows 10 = .ok (.iload_n 2, 1) := by decide +kernel
theorem dX4_rows_11 : decode cX4_rows 11 = .ok (.ifCond .eq 11, 3) := by decide +kernel
theorem dX4_rows_14 : decode cX4_rows 14 = .ok (.iload_n 2, 1) := by decide +kernel
theorem dX4_rows_15 : decode cX4_rows 15 = .ok (.iconst 1, 1) := by decide +kernel
theorem dX4_rows_16 : decode cX4_rows 16 = .ok (.if_icmp .eq 6, 3) := by decide +kernel
theorem dX4_rows_19 : decode cX4_rows 19 = .ok (.bipush (-102), 2) := by decide +kernel
theorem dX4_rows_21 : decode cX4_rows 21 = .ok (.ireturn, 1) := by decide +kernel
theorem dX4_rows_22 : decode cX4_rows 22 = .ok (.aload_n 0, 1) := by decide +kernel
theorem dX4_rows_23 : decode cX4_rows 23 = .ok (.getfield 19, 3) := by decide +kernel
theorem dX4_rows_26 : decode cX4_rows 26 = .ok (.invokevirtual 126, 3) := by decide +kernel
theorem dX4_rows_29 : decode cX4_rows 29 = .ok (.ifCond .ne 6, 3) := by decide +kernel
theorem dX4_rows_32 : decode cX4_rows 32 = .ok (.bipush (-103), 2) := by decide +kernel
theorem dX4_rows_34 : decode cX4_rows 34 = .ok (.ireturn, 1) := by decide +kernel
theorem dX4_rows_35 : decode cX4_rows 35 = .ok (.aload_n 0, 1) := by decide +kernel
theorem dX4_rows_36 : decode cX4_rows 36 = .ok (.getfield 41, 3) := by decide +kernel
theorem dX4_rows_39 : decode cX4_rows 39 = .ok (.iload_n 1, 1) := by decide +kernel
theorem dX4_rows_40 : decode cX4_rows 40 = .ok (.invokevirtual 152, 3) := by decide +kernel
theorem dX4_rows_43 : decode cX4_rows 43 = .ok (.iload_n 2, 1) := by decide +kernel
theorem dX4_rows_44 : decode cX4_rows 44 = .ok (.ifCond .ne 14, 3) := by decide +kernel
theorem dX4_rows_47 : decode cX4_rows 47 = .ok (.aload_n 0, 1) := by decide +kernel
theorem dX4_rows_48 : decode cX4_rows 48 = .ok (.getfield 41, 3) := by decide +kernel
theorem dX4_rows_51 : decode cX4_rows 51 = .ok (.iload_n 1, 1) := by decide +kernel
theorem dX4_rows_52 : decode cX4_rows 52 = .ok (.invokevirtual 155, 3) := by decide +kernel
theorem dX4_rows_55 : decode cX4_rows 55 = .ok (.goto 11, 3) := by decide +kernel
theorem dX4_rows_58 : decode cX4_rows 58 = .ok (.aload_n 0, 1) := by decide +kernel
theorem dX4_rows_59 : decode cX4_rows 59 = .ok (.getfield 41, 3) := by decide +kernel
theorem dX4_rows_62 : decode cX4_rows 62 = .ok (.iload_n 1, 1) := by decide +kernel
theorem dX4_rows_63 : decode cX4_rows 63 = .ok (.invokevirtual 158, 3) := by decide +kernel
theorem dX4_rows_66 : decode cX4_rows 66 = .ok (.ireturn, 1) := by decide +kernel
set_option maxRecDepth 20000 in
theorem ggX4_when_X0_isSet : GoodIn wsX4_when wsX0_isSet := goodIn_r _ [7, 8, 101, 102, 103, 104] (by decide +kernel) (by decide +kernel)
set_option maxRecDepth 20000 in
theorem gX4_when_X0_isSet : GoodIn wsX4_when (wsV RX4 126 RX0 yX0_isSet wsX0_isSet) := goodIn_app (goodIn_of _ (by decide +kernel)) ggX4_when_X0_isSet
set_option maxRecDepth 20000 in
theorem ggX4_when_X1_bestLook : GoodIn wsX4_when wsX1_bestLook := goodIn_r _ [13, 14, 15, 16, 12, 17, 18, 19, 20, 21, 22, 23, 24, 25, 26, 27, 28, 29, 6, 30, 31, 32, 33, 34, 8, 35, 36, 37, 38, 39, 40, 41, 42, 43, 44, 45, 46, 47, 48, 49, 50, 51, 52, 53, 54, 55, 56, 57, 58, 59, 60, 61, 62, 63, 64, 65, 66, 67, 68, 69, 70, 71, 72, 73, 74, 75, 76, 77, 78, 79, 80, 81, 82, 83, 84, 85, 86, 87, 88, 89, 90, 91, 92, 105, 106, 107, 108, 109, 110, 111, 112, 113, 114, 115, 116, 117, 118, 119, 120, 121, 122, 123, 124, 125, 126, 101, 102, 103, 104] (by decide +kernel) (by decide +kernel)
set_option maxRecDepth 20000 in
theorem gX4_when_X1_bestLook : GoodIn wsX4_when (wsV RX4 161 RX1 yX1_bestLook wsX1_bestLook) := goodIn_app (goodIn_of _ (by decide +kernel)) ggX4_when_X1_bestLook
theorem dX4_when_0 : decode cX4_when 0 = .ok (.aload_n 0, 1) := by decide +kernel
theorem dX4_when_1 : decode cX4_when 1 = .ok (.getfield 19, 3) := by decide +kernel
theorem dX4_when_4 : decode cX4_when 4 = .ok (.invokevirtual 126, 3) := by decide +kernel
theorem dX4_when_7 : decode cX4_when 7 = .ok (.ifCond .ne 6, 3) := by decide +kernel
theorem dX4_when_10 : decode cX4_when 10 = .ok (.bipush (-103), 2) := by decide +kernel
theorem dX4_when_12 : decode cX4_when 12 = .ok (.ireturn, 1) := by decide +kernel
theorem dX4_when_13 : decode cX4_when 13 = .ok (.aload_n 0, 1) := by decide +kernel
theorem dX4_when_14 : decode cX4_when 14 = .ok (.getfield 41, 3) := by decide +kernel
theorem dX4_when_17 : decode cX4_when 17 = .ok (.invokevirtual 161, 3) := by decide +kernel
theorem dX4_when_20 : decode cX4_when 20 = .ok (.ireturn, 1) := by decide +kernel
set_option maxRecDepth 20000 in
theorem ggX4_sessions_X0_isSet : GoodIn wsX4_sessions wsX0_isSet := goodIn_r _ [8, 9, 115, 116, 117, 118] (by decide +kernel) (by decide +kernel)
set_option maxRecDepth 20000 in
theorem gX4_sessions_X0_isSet : GoodIn wsX4_sessions (wsV RX4 126 RX0 yX0_isSet wsX0_isSet) := goodIn_app (goodIn_of _ (by decide +kernel)) ggX4_sessions_X0_isSet
set_option maxRecDepth 20000 in
theorem ggX4_sessions_X3_takeFrom : GoodIn wsX4_sessions wsX3_takeFrom := goodIn_r _ [14, 15, 16, 17, 18, 19, 20, 21, 22, 23, 24, 25, 26, 27, 28, 29, 30, 31, 32, 103, 104, 105, 106, 107, 108, 109, 110, 111, 112, 113, 114] (by decide +kernel) (by decide +kernel)
set_option maxRecDepth 20000 in
theorem gX4_sessions_X3_takeFrom : GoodIn wsX4_sessions (wsV RX4 164 RX3 yX3_takeFrom wsX3_takeFrom) := goodIn_app (goodIn_of _ (by decide +kernel)) ggX4_sessions_X3_takeFrom
set_option maxRecDepth 20000 in
theorem ggX4_sessions_X4_runSessions : GoodIn wsX4_sessions wsX4_runSessions := goodIn_r _ [36, 1, 37, 38, 2, 39, 40, 28, 41, 42, 43, 44, 45, 46, 47, 13, 48, 15, 17, 22, 18, 49, 50, 51, 52, 53, 7, 54, 55, 56, 57, 58, 9, 59, 60, 61, 62, 63, 64, 65, 66, 67, 16, 68, 69, 70, 71, 72, 73, 74, 75, 76, 19, 20, 21, 77, 78, 79, 80, 81, 82, 83, 84, 24, 31, 32, 85, 86, 87, 88, 89, 90, 91, 92, 93, 94, 95, 96, 97, 98, 99, 100, 101, 102, 115, 116, 117, 118, 103, 104, 105, 106, 107, 108, 109, 110, 111, 112, 113, 114] (by decide +kernel) (by decide +kernel)
set_option maxRecDepth 20000 in
theorem gX4_sessions_X4_runSessions : GoodIn wsX4_sessions (wsV RX4 168 RX4 yX4_runSessions wsX4_runSessions) := goodIn_app (goodIn_of _ (by decide +kernel)) ggX4_sessions_X4_runSessions
theorem dX4_sessions_0 : decode cX4_sessions 0 = .ok (.iload_n 1, 1) := by decide +kernel
theorem dX4_sessions_1 : decode cX4_sessions 1 = .ok (.iconst 1, 1) := by decide +kernel
theorem dX4_sessions_2 : decode cX4_sessions 2 = .ok (.if_icmp .lt 22, 3) := by decide +kernel
theorem dX4_sessions_5 : decode cX4_sessions 5 = .ok (.iload_n 1, 1) := by decide +kernel
theorem dX4_sessions_6 : decode cX4_sessions 6 = .ok (.bipush 60, 2) := by decide +kernel
theorem dX4_sessions_8 : decode cX4_sessions 8 = .ok (.if_icmp .gt 16, 3) := by decide +kernel
theorem dX4_sessions_11 : decode cX4_sessions 11 = .ok (.iload_n 2, 1) := by decide +kernel
theorem dX4_sessions_12 : decode cX4_sessions 12 = .ok (.ifCond .lt 12, 3) := by decide +kernel
theorem dX4_sessions_15 : decode cX4_sessions 15 = .ok (.iload_n 3, 1) := by decide +kernel
theorem dX4_sessions_16 : decode cX4_sessions 16 = .ok (.ifCond .lt 8, 3) := by decide +kernel
theorem dX4_sessions_19 : decode cX4_sessions 19 = .ok (.iload_n 3, 1) := by decide +kernel
theorem dX4_sessions_20 : decode cX4_sessions 20 = .ok (.iconst 3, 1) := by decide +kernel
theorem dX4_sessions_21 : decode cX4_sessions 21 = .ok (.if_icmp .lt 6, 3) := by decide +kernel
theorem dX4_sessions_24 : decode cX4_sessions 24 = .ok (.bipush (-102), 2) := by decide +kernel
theorem dX4_sessions_26 : decode cX4_sessions 26 = .ok (.ireturn, 1) := by decide +kernel
theorem dX4_sessions_27 : decode cX4_sessions 27 = .ok (.aload_n 0, 1) := by decide +kernel
theorem dX4_sessions_28 : decode cX4_sessions 28 = .ok (.getfield 19, 3) := by decide +kernel
theorem dX4_sessions_31 : decode cX4_sessions 31 = .ok (.invokevirtual 126, 3) := by decide +kernel
theorem dX4_sessions_34 : decode cX4_sessions 34 = .ok (.ifCond .ne 6, 3) := by decide +kernel
theorem dX4_sessions_37 : decode cX4_sessions 37 = .ok (.bipush (-103), 2) := by decide +kernel
theorem dX4_sessions_39 : decode cX4_sessions 39 = .ok (.ireturn, 1) := by decide +kernel
theorem dX4_sessions_40 : decode cX4_sessions 40 = .ok (.aload_n 0, 1) := by decide +kernel
theorem dX4_sessions_41 : decode cX4_sessions 41 = .ok (.getfield 33, 3) := by decide +kernel
theorem dX4_sessions_44 : decode cX4_sessions 44 = .ok (.aload_n 0, 1) := by decide +kernel
theorem dX4_sessions_45 : decode cX4_sessions 45 = .ok (.getfield 26, 3) := by decide +kernel
theorem dX4_sessions_48 : decode cX4_sessions 48 = .ok (.invokevirtual 164, 3) := by decide +kernel
theorem dX4_sessions_51 : decode cX4_sessions 51 = .ok (.aload_n 0, 1) := by decide +kernel
theorem dX4_sessions_52 : decode cX4_sessions 52 = .ok (.iload_n 1, 1) := by decide +kernel
theorem dX4_sessions_53 : decode cX4_sessions 53 = .ok (.iload_n 2, 1) := by decide +kernel
theorem dX4_sessions_54 : decode cX4_sessions 54 = .ok (.invokevirtual 168, 3) := by decide +kernel
theorem dX4_sessions_57 : decode cX4_sessions 57 = .ok (.istore 4, 2) := by decide +kernel
theorem dX4_sessions_59 : decode cX4_sessions 59 = .ok (.iload_n 3, 1) := by decide +kernel
theorem dX4_sessions_60 : decode cX4_sessions 60 = .ok (.lookupswitch 60 #[(0, 28), (1, 44)], 28) := by decide +kernel
theorem dX4_sessions_88 : decode cX4_sessions 88 = .ok (.aload_n 0, 1) := by decide +kernel
theorem dX4_sessions_89 : decode cX4_sessions 89 = .ok (.getfield 33, 3) := by decide +kernel
theorem dX4_sessions_92 : decode cX4_sessions 92 = .ok (.getfield 172, 3) := by decide +kernel
theorem dX4_sessions_95 : decode cX4_sessions 95 = .ok (.aload_n 0, 1) := by decide +kernel
theorem dX4_sessions_96 : decode cX4_sessions 96 = .ok (.getfield 26, 3) := by decide +kernel
theorem dX4_sessions_99 : decode cX4_sessions 99 = .ok (.getfield 172, 3) := by decide +kernel
theorem dX4_sessions_102 : decode cX4_sessions 102 = .ok (.isub, 1) := by decide +kernel
theorem dX4_sessions_103 : decode cX4_sessions 103 = .ok (.ireturn, 1) := by decide +kernel
theorem dX4_sessions_104 : decode cX4_sessions 104 = .ok (.aload_n 0, 1) := by decide +kernel
theorem dX4_sessions_105 : decode cX4_sessions 105 = .ok (.getfield 33, 3) := by decide +kernel
theorem dX4_sessions_108 : decode cX4_sessions 108 = .ok (.getfield 175, 3) := by decide +kernel
theorem dX4_sessions_111 : decode cX4_sessions 111 = .ok (.aload_n 0, 1) := by decide +kernel
theorem dX4_sessions_112 : decode cX4_sessions 112 = .ok (.getfield 26, 3) := by decide +kernel
theorem dX4_sessions_115 : decode cX4_sessions 115 = .ok (.getfield 175, 3) := by decide +kernel
theorem dX4_sessions_118 : decode cX4_sessions 118 = .ok (.isub, 1) := by decide +kernel
theorem dX4_sessions_119 : decode cX4_sessions 119 = .ok (.ireturn, 1) := by decide +kernel
theorem dX4_sessions_120 : decode cX4_sessions 120 = .ok (.iload 4, 2) := by decide +kernel
theorem dX4_sessions_122 : decode cX4_sessions 122 = .ok (.ireturn, 1) := by decide +kernel
set_option maxRecDepth 20000 in
theorem ggX4_image_X0_isSet : GoodIn wsX4_image wsX0_isSet := goodIn_r _ [9, 10, 54, 55, 56, 57] (by decide +kernel) (by decide +kernel)
set_option maxRecDepth 20000 in
theorem gX4_image_X0_isSet : GoodIn wsX4_image (wsV RX4 126 RX0 yX0_isSet wsX0_isSet) := goodIn_app (goodIn_of _ (by decide +kernel)) ggX4_image_X0_isSet
set_option maxRecDepth 20000 in
theorem ggX4_image_X3_takeFrom : GoodIn wsX4_image wsX3_takeFrom := goodIn_r _ [15, 16, 17, 18, 19, 20, 21, 22, 23, 24, 25, 26, 27, 28, 29, 30, 31, 32, 33, 42, 43, 44, 45, 46, 47, 48, 49, 50, 51, 52, 53] (by decide +kernel) (by decide +kernel)
set_option maxRecDepth 20000 in
theorem gX4_image_X3_takeFrom : GoodIn wsX4_image (wsV RX4 164 RX3 yX3_takeFrom wsX3_takeFrom) := goodIn_app (goodIn_of _ (by decide +kernel)) ggX4_image_X3_takeFrom
theorem dX4_image_0 : decode cX4_image 0 = .ok (.aload_n 0, 1) := by decide +kernel
theorem dX4_image_1 : decode cX4_image 1 = .ok (.getfield 19, 3) := by decide +kernel
theorem dX4_image_4 : decode cX4_image 4 = .ok (.invokevirtual 126, 3) := by decide +kernel
theorem dX4_image_7 : decode cX4_image 7 = .ok (.ifCond .ne 6, 3) := by decide +kernel
theorem dX4_image_10 : decode cX4_image 10 = .ok (.bipush (-103), 2) := by decide +kernel
theorem dX4_image_12 : decode cX4_image 12 = .ok (.ireturn, 1) := by decide +kernel
theorem dX4_image_13 : decode cX4_image 13 = .ok (.aload_n 0, 1) := by decide +kernel
theorem dX4_image_14 : decode cX4_image 14 = .ok (.getfield 30, 3) := by decide +kernel
theorem dX4_image_17 : decode cX4_image 17 = .ok (.aload_n 0, 1) := by decide +kernel
theorem dX4_image_18 : decode cX4_image 18 = .ok (.getfield 26, 3) := by decide +kernel
theorem dX4_image_21 : decode cX4_image 21 = .ok (.invokevirtual 164, 3) := by decide +kernel
theorem dX4_image_24 : decode cX4_image 24 = .ok (.aload_n 0, 1) := by decide +kernel
theorem dX4_image_25 : decode cX4_image 25 = .ok (.iconst 1, 1) := by decide +kernel
theorem dX4_image_26 : decode cX4_image 26 = .ok (.putfield 45, 3) := by decide +kernel
theorem dX4_image_29 : decode cX4_image 29 = .ok (.aload_n 0, 1) := by decide +kernel
theorem dX4_image_30 : decode cX4_image 30 = .ok (.getfield 26, 3) := by decide +kernel
theorem dX4_image_33 : decode cX4_image 33 = .ok (.getfield 178, 3) := by decide +kernel
theorem dX4_image_36 : decode cX4_image 36 = .ok (.ireturn, 1) := by decide +kernel
set_option maxRecDepth 20000 in
theorem ggX4_restore_X3_takeFrom : GoodIn wsX4_restore wsX3_takeFrom := goodIn_r _ [8, 9, 10, 11, 12, 13, 14, 15, 16, 17, 18, 19, 20, 21, 22, 23, 24, 25, 26, 35, 36, 37, 38, 39, 40, 41, 42, 43, 44, 45, 46] (by decide +kernel) (by decide +kernel)
set_option maxRecDepth 20000 in
theorem gX4_restore_X3_takeFrom : GoodIn wsX4_restore (wsV RX4 164 RX3 yX3_takeFrom wsX3_takeFrom) := goodIn_app (goodIn_of _ (by decide +kernel)) ggX4_restore_X3_takeFrom
theorem dX4_restore_0 : decode cX4_restore 0 = .ok (.aload_n 0, 1) := by decide +kernel
theorem dX4_restore_1 : decode cX4_restore 1 = .ok (.getfield 45, 3) := by decide +kernel
theorem dX4_restore_4 : decode cX4_restore 4 = .ok (.ifCond .ne 6, 3) := by decide +kernel
theorem dX4_restore_7 : decode cX4_restore 7 = .ok (.bipush (-103), 2) := by decide +kernel
theorem dX4_restore_9 : decode cX4_restore 9 = .ok (.ireturn, 1) := by decide +kernel
theorem dX4_restore_10 : decode cX4_restore 10 = .ok (.aload_n 0, 1) := by decide +kernel
theorem dX4_restore_11 : decode cX4_restore 11 = .ok (.getfield 26, 3) := by decide +kernel
theorem dX4_restore_14 : decode cX4_restore 14 = .ok (.aload_n 0, 1) := by decide +kernel
theorem dX4_restore_15 : decode cX4_restore 15 = .ok (.getfield 30, 3) := by decide +kernel
theorem dX4_restore_18 : decode cX4_restore 18 = .ok (.invokevirtual 164, 3) := by decide +kernel
theorem dX4_restore_21 : decode cX4_restore 21 = .ok (.aload_n 0, 1) := by decide +kernel
theorem dX4_restore_22 : decode cX4_restore 22 = .ok (.getfield 26, 3) := by decide +kernel
theorem dX4_restore_25 : decode cX4_restore 25 = .ok (.getfield 178, 3) := by decide +kernel
theorem dX4_restore_28 : decode cX4_restore 28 = .ok (.ireturn, 1) := by decide +kernel
theorem dX4_count_0 : decode cX4_count 0 = .ok (.iload_n 1, 1) := by decide +kernel
theorem dX4_count_1 : decode cX4_count 1 = .ok (.tableswitch 156 0 11 #[63, 71, 79, 87, 95, 103, 111, 119, 127, 135, 143, 151], 63) := by decide +kernel
theorem dX4_count_64 : decode cX4_count 64 = .ok (.aload_n 0, 1) := by decide +kernel
theorem dX4_count_65 : decode cX4_count 65 = .ok (.getfield 19, 3) := by decide +kernel
theorem dX4_count_68 : decode cX4_count 68 = .ok (.getfield 78, 3) := by decide +kernel
theorem dX4_count_71 : decode cX4_count 71 = .ok (.ireturn, 1) := by decide +kernel
theorem dX4_count_72 : decode cX4_count 72 = .ok (.aload_n 0, 1) := by decide +kernel
theorem dX4_count_73 : decode cX4_count 73 = .ok (.getfield 19, 3) := by decide +kernel
theorem dX4_count_76 : decode cX4_count 76 = .ok (.getfield 181, 3) := by decide +kernel
theorem dX4_count_79 : decode cX4_count 79 = .ok (.ireturn, 1) := by decide +kernel
theorem dX4_count_80 : decode cX4_count 80 = .ok (.aload_n 0, 1) := by decide +kernel
theorem dX4_count_81 : decode cX4_count 81 = .ok (.getfield 26, 3) := by decide +kernel
theorem dX4_count_84 : decode cX4_count 84 = .ok (.getfield 99, 3) := by decide +kernel
theorem dX4_count_87 : decode cX4_count 87 = .ok (.ireturn, 1) := by decide +kernel
theorem dX4_count_88 : decode cX4_count 88 = .ok (.aload_n 0, 1) := by decide +kernel
theorem dX4_count_89 : decode cX4_count 89 = .ok (.getfield 26, 3) := by decide +kernel
theorem dX4_count_92 : decode cX4_count 92 = .ok (.getfield 184, 3) := by decide +kernel
theorem dX4_count_95 : decode cX4_count 95 = .ok (.ireturn, 1) := by decide +kernel
theorem dX4_count_96 : decode cX4_count 96 = .ok (.aload_n 0, 1) := by decide +kernel
theorem dX4_count_97 : decode cX4_count 97 = .ok (.getfield 26, 3) := by decide +kernel
theorem dX4_count_100 : decode cX4_count 100 = .ok (.getfield 187, 3) := by decide +kernel
theorem dX4_count_103 : decode cX4_count 103 = .ok (.ireturn, 1) := by decide +kernel
theorem dX4_count_104 : decode cX4_count 104 = .ok (.aload_n 0, 1) := by decide +kernel
theorem dX4_count_105 : decode cX4_count 105 = .ok (.getfield 26, 3) := by decide +kernel
theorem dX4_count_108 : decode cX4_count 108 = .ok (.getfield 172, 3) := by decide +kernel
theorem dX4_count_111 : decode cX4_count 111 = .ok (.ireturn, 1) := by decide +kernel
theorem dX4_count_112 : decode cX4_count 112 = .ok (.aload_n 0, 1) := by decide +kernel
theorem dX4_count_113 : decode cX4_count 113 = .ok (.getfield 26, 3) := by decide +kernel
theorem dX4_count_116 : decode cX4_count 116 = .ok (.getfield 175, 3) := by decide +kernel
theorem dX4_count_119 : decode cX4_count 119 = .ok (.ireturn, 1) := by decide +kernel
theorem dX4_count_120 : decode cX4_count 120 = .ok (.aload_n 0, 1) := by decide +kernel
theorem dX4_count_121 : decode cX4_count 121 = .ok (.getfield 26, 3) := by decide +kernel
theorem dX4_count_124 : decode cX4_count 124 = .ok (.getfield 190, 3) := by decide +kernel
theorem dX4_count_127 : decode cX4_count 127 = .ok (.ireturn, 1) := by decide +kernel
theorem dX4_count_128 : decode cX4_count 128 = .ok (.aload_n 0, 1) := by decide +kernel
theorem dX4_count_129 : decode cX4_count 129 = .ok (.getfield 26, 3) := by decide +kernel
theorem dX4_count_132 : decode cX4_count 132 = .ok (.getfield 178, 3) := by decide +kernel
theorem dX4_count_135 : decode cX4_count 135 = .ok (.ireturn, 1) := by decide +kernel
theorem dX4_count_136 : decode cX4_count 136 = .ok (.aload_n 0, 1) := by decide +kernel
theorem dX4_count_137 : decode cX4_count 137 = .ok (.getfield 26, 3) := by decide +kernel
theorem dX4_count_140 : decode cX4_count 140 = .ok (.getfield 145, 3) := by decide +kernel
theorem dX4_count_143 : decode cX4_count 143 = .ok (.ireturn, 1) := by decide +kernel
theorem dX4_count_144 : decode cX4_count 144 = .ok (.aload_n 0, 1) := by decide +kernel
theorem dX4_count_145 : decode cX4_count 145 = .ok (.getfield 10, 3) := by decide +kernel
theorem dX4_count_148 : decode cX4_count 148 = .ok (.getfield 53, 3) := by decide +kernel
theorem dX4_count_151 : decode cX4_count 151 = .ok (.ireturn, 1) := by decide +kernel
theorem dX4_count_152 : decode cX4_count 152 = .ok (.aload_n 0, 1) := by decide +kernel
theorem dX4_count_153 : decode cX4_count 153 = .ok (.getfield 49, 3) := by decide +kernel
theorem dX4_count_156 : decode cX4_count 156 = .ok (.ireturn, 1) := by decide +kernel
theorem dX4_count_157 : decode cX4_count 157 = .ok (.bipush (-102), 2) := by decide +kernel
theorem dX4_count_159 : decode cX4_count 159 = .ok (.ireturn, 1) := by decide +kernel
set_option maxRecDepth 20000 in
theorem ggX4_digest_X4_seat : GoodIn wsX4_digest wsX4_seat := goodIn_r _ [9, 2, 10, 11, 12, 13, 14, 15, 16, 17, 18, 19, 20, 21, 22, 23, 24, 25, 26, 27, 28, 29, 8, 30, 31, 32, 33, 34, 35, 36, 37, 38, 39, 40, 41, 42, 43, 44, 45, 46, 47, 48, 49, 50, 51, 52, 53, 54, 55, 56, 57, 58, 59, 60, 61, 62, 63, 64, 65, 66, 67, 68, 69, 70, 71, 72, 73, 74, 75, 76, 77, 78, 79, 80, 81, 82, 83, 84, 213, 214, 215, 216, 217, 218, 219, 220, 227, 228, 229, 230, 231, 232, 233, 234, 235, 236, 237, 238, 221, 222, 223, 224, 239, 240, 241, 242, 243, 244, 245, 246, 247, 248] (by decide +kernel) (by decide +kernel)
set_option maxRecDepth 20000 in
theorem gX4_digest_X4_seat : GoodIn wsX4_digest (wsV RX4 197 RX4 yX4_seat wsX4_seat) := goodIn_app (goodIn_of _ (by decide +kernel)) ggX4_digest_X4_seat
set_option maxRecDepth 20000 in
theorem ggX4_digest_X4_get : GoodIn wsX4_digest wsX4_get := goodIn_r _ [88, 2, 11, 12, 13, 14, 15, 16, 17, 43, 44, 45, 46, 47, 48, 49, 50, 51, 52, 53, 54, 55, 56, 57, 58, 59, 60, 61, 32, 33, 34, 35, 19, 20, 21, 22, 29, 8, 30, 36, 37, 38, 39, 62, 63, 64, 65, 66, 67, 68, 69, 70, 71, 72, 73, 74, 75, 76, 77, 78, 79, 80, 41, 42, 81, 82, 83, 84, 89, 90, 91, 92, 93, 213, 214, 215, 216, 217, 218, 219, 220, 221, 222, 223, 224, 239, 240, 241, 242, 243, 244, 245, 246, 247, 248, 227, 228, 229, 230, 231, 232, 233, 234, 235, 236, 237, 238] (by decide +kernel) (by decide +kernel)
set_option maxRecDepth 20000 in
theorem gX4_digest_X4_get : GoodIn wsX4_digest (wsV RX4 200 RX4 yX4_get wsX4_get) := goodIn_app (goodIn_of _ (by decide +kernel)) ggX4_digest_X4_get
set_option maxRecDepth 20000 in
theorem ggX4_digest_X0_isSet : GoodIn wsX4_digest wsX0_isSet := goodIn_r _ [97, 17, 221, 222, 223, 224] (by decide +kernel) (by decide +kernel)
set_option maxRecDepth 20000 in
theorem gX4_digest_X0_isSet : GoodIn wsX4_digest (wsV RX4 126 RX0 yX0_isSet wsX0_isSet) := goodIn_app (goodIn_of _ (by decide +kernel)) ggX4_digest_X0_isSet
set_option maxRecDepth 20000 in
theorem ggX4_digest_X4_play : GoodIn wsX4_digest wsX4_play := goodIn_r _ [101, 2, 11, 94, 95, 96, 15, 97, 17, 102, 103, 104, 46, 105, 106, 53, 54, 55, 56, 57, 58, 59, 60, 61, 32, 33, 34, 35, 19, 20, 21, 22, 29, 8, 30, 36, 37, 38, 39, 62, 63, 64, 65, 66, 67, 68, 69, 70, 71, 72, 73, 74, 107, 108, 109, 110, 111, 112, 113, 114, 24, 25, 26, 27, 115, 116, 117, 118, 119, 120, 121, 122, 123, 124, 125, 126, 127, 41, 42, 128, 129, 130, 131, 132, 133, 134, 135, 136, 51, 137, 49, 50, 52, 138, 139, 40, 140, 141, 142, 143, 144, 145, 146, 147, 148, 213, 214, 215, 216, 217, 218, 219, 220, 221, 222, 223, 224, 239, 240, 241, 242, 243, 244, 245, 246, 247, 248, 227, 228, 229, 230, 231, 232, 233, 234, 235, 236, 237, 238] (by decide +kernel) (by decide +kernel)
set_option maxRecDepth 20000 in
theorem gX4_digest_X4_play : GoodIn wsX4_digest (wsV RX4 203 RX4 yX4_play wsX4_play) := goodIn_app (goodIn_of _ (by decide +kernel)) ggX4_digest_X4_play
set_option maxRecDepth 20000 in
theorem ggX4_digest_X4_rows : GoodIn wsX4_digest wsX4_rows := goodIn_r _ [152, 2, 11, 94, 95, 96, 15, 97, 17, 153, 154, 155, 46, 156, 157, 58, 59, 53, 54, 55, 56, 57, 60, 61, 32, 33, 34, 35, 19, 20, 21, 22, 29, 8, 30, 36, 37, 38, 39, 62, 63, 64, 65, 66, 67, 68, 69, 70, 71, 72, 73, 74, 75, 76, 158, 159, 160, 161, 162, 163, 164, 165, 166, 167, 168, 41, 42, 169, 170, 171, 172, 173, 174, 175, 176, 177, 178, 179, 180, 213, 214, 215, 216, 217, 218, 219, 220, 221, 222, 223, 224, 239, 240, 241, 242, 243, 244, 245, 246, 247, 248, 227, 228, 229, 230, 231, 232, 233, 234, 235, 236, 237, 238] (by decide +kernel) (by decide +kernel)
set_option maxRecDepth 20000 in
theorem gX4_digest_X4_rows : GoodIn wsX4_digest (wsV RX4 206 RX4 yX4_rows wsX4_rows) := goodIn_app (goodIn_of _ (by decide +kernel)) ggX4_digest_X4_rows
set_option maxRecDepth 20000 in
theorem ggX4_digest_X4_when : GoodIn wsX4_digest wsX4_when := goodIn_r _ [184, 2, 11, 94, 95, 96, 15, 97, 17, 185, 186, 187, 46, 188, 189, 154, 155, 156, 157, 58, 59, 53, 54, 55, 56, 57, 60, 61, 32, 33, 34, 35, 19, 20, 21, 22, 29, 8, 30, 36, 37, 38, 39, 62, 63, 64, 65, 66, 67, 68, 69, 70, 71, 72, 73, 74, 75, 76, 158, 159, 160, 161, 162, 163, 164, 165, 166, 167, 168, 41, 42, 169, 170, 171, 172, 190, 174, 175, 176, 191, 192, 193, 194, 195, 196, 197, 198, 199, 200, 135, 136, 51, 137, 213, 214, 215, 216, 217, 218, 219, 220, 221, 222, 223, 224, 239, 240, 241, 242, 243, 244, 245, 246, 247, 248, 227, 228, 229, 230, 231, 232, 233, 234, 235, 236, 237, 238] (by decide +kernel) (by decide +kernel)
set_option maxRecDepth 20000 in
theorem gX4_digest_X4_when : GoodIn wsX4_digest (wsV RX4 209 RX4 yX4_when wsX4_when) := goodIn_app (goodIn_of _ (by decide +kernel)) ggX4_digest_X4_when
set_option maxRecDepth 20000 in
theorem ggX4_digest_X2_codeAt : GoodIn wsX4_digest wsX2_codeAt := goodIn_r _ [205, 206, 207, 41, 8, 42, 225, 226] (by decide +kernel) (by decide +kernel)
set_option maxRecDepth 20000 in
theorem gX4_digest_X2_codeAt : GoodIn wsX4_digest (wsV RX4 212 RX2 yX2_codeAt wsX2_codeAt) := goodIn_app (goodIn_of _ (by decide +kernel)) ggX4_digest_X2_codeAt
set_option maxRecDepth 20000 in
theorem ggX4_digest_X4_count : GoodIn wsX4_digest wsX4_count := goodIn_r _ [211, 2, 10, 4, 212, 213, 214, 215, 216, 217, 218, 219, 220, 221, 222, 223, 224, 227, 228, 229, 230, 231, 232, 233, 234, 235, 236, 237, 238, 225, 226] (by decide +kernel) (by decide +kernel)
set_option maxRecDepth 20000 in
theorem gX4_digest_X4_count : GoodIn wsX4_digest (wsV RX4 215 RX4 yX4_count wsX4_count) := goodIn_app (goodIn_of _ (by decide +kernel)) ggX4_digest_X4_count
theorem dX4_digest_0 : decode cX4_digest 0 = .ok (.ldc2_w 193, 3) := by decide +kernel
theorem dX4_digest_3 : decode cX4_digest 3 = .ok (.lstore_n 1, 1) := by decide +kernel
theorem dX4_digest_4 : decode cX4_digest 4 = .ok (.iconst 0, 1) := by decide +kernel
theorem dX4_digest_5 : decode cX4_digest 5 = .ok (.istore_n 3, 1) := by decide +kernel
theorem dX4_digest_6 : decode cX4_digest 6 = .ok (.iload_n 3, 1) := by decide +kernel
theorem dX4_digest_7 : decode cX4_digest 7 = .ok (.aload_n 0, 1) := by decide +kernel
theorem dX4_digest_8 : decode cX4_digest 8 = .ok (.getfield 19, 3) := by decide +kernel
theorem dX4_digest_11 : decode cX4_digest 11 = .ok (.getfield 78, 3) := by decide +kernel
theorem dX4_digest_14 : decode cX4_digest 14 = .ok (.if_icmp .ge 54, 3) := by decide +kernel
theorem dX4_digest_17 : decode cX4_digest 17 = .ok (.iconst 0, 1) := by decide +kernel
theorem dX4_digest_18 : decode cX4_digest 18 = .ok (.istore 4, 2) := by decide +kernel
theorem dX4_digest_20 : decode cX4_digest 20 = .ok (.iload 4, 2) := by decide +kernel
theorem dX4_digest_22 : decode cX4_digest 22 = .ok (.bipush 6, 2) := by decide +kernel
theorem dX4_digest_24 : decode cX4_digest 24 = .ok (.if_icmp .ge 24, 3) := by decide +kernel
theorem dX4_digest_27 : decode cX4_digest 27 = .ok (.ldc2_w 195, 3) := by decide +kernel
theorem dX4_digest_30 : decode cX4_digest 30 = .ok (.lload_n 1, 1) := by decide +kernel
theorem dX4_digest_31 : decode cX4_digest 31 = .ok (.lmul, 1) := by decide +kernel
theorem dX4_digest_32 : decode cX4_digest 32 = .ok (.aload_n 0, 1) := by decide +kernel
theorem dX4_digest_33 : decode cX4_digest 33 = .ok (.iload_n 3, 1) := by decide +kernel
theorem dX4_digest_34 : decode cX4_digest 34 = .ok (.iload 4, 2) := by decide +kernel
theorem dX4_digest_36 : decode cX4_digest 36 = .ok (.invokevirtual 197, 3) := by decide +kernel
theorem dX4_digest_39 : decode cX4_digest 39 = .ok (.i2l, 1) := by decide +kernel
theorem dX4_digest_40 : decode cX4_digest 40 = .ok (.ladd, 1) := by decide +kernel
theorem dX4_digest_41 : decode cX4_digest 41 = .ok (.lstore_n 1, 1) := by decide +kernel
theorem dX4_digest_42 : decode cX4_digest 42 = .ok (.iinc 4 1, 3) := by decide +kernel
theorem dX4_digest_45 : decode cX4_digest 45 = .ok (.goto (-25), 3) := by decide +kernel
theorem dX4_digest_48 : decode cX4_digest 48 = .ok (.ldc2_w 195, 3) := by decide +kernel
theorem dX4_digest_51 : decode cX4_digest 51 = .ok (.lload_n 1, 1) := by decide +kernel
theorem dX4_digest_52 : decode cX4_digest 52 = .ok (.lmul, 1) := by decide +kernel
theorem dX4_digest_53 : decode cX4_digest 53 = .ok (.aload_n 0, 1) := by decide +kernel
theorem dX4_digest_54 : decode cX4_digest 54 = .ok (.iload_n 3, 1) := by decide +kernel
theorem dX4_digest_55 : decode cX4_digest 55 = .ok (.iconst 1, 1) := by decide +kernel
theorem dX4_digest_56 : decode cX4_digest 56 = .ok (.invokevirtual 200, 3) := by decide +kernel
theorem dX4_digest_59 : decode cX4_digest 59 = .ok (.i2l, 1) := by decide +kernel
theorem dX4_digest_60 : decode cX4_digest 60 = .ok (.ladd, 1) := by decide +kernel
theorem dX4_digest_61 : decode cX4_digest 61 = .ok (.lstore_n 1, 1) := by decide +kernel
theorem dX4_digest_62 : decode cX4_digest 62 = .ok (.iinc 3 1, 3) := by decide +kernel
theorem dX4_digest_65 : decode cX4_digest 65 = .ok (.goto (-59), 3) := by decide +kernel
theorem dX4_digest_68 : decode cX4_digest 68 = .ok (.aload_n 0, 1) := by decide +kernel
theorem dX4_digest_69 : decode cX4_digest 69 = .ok (.getfield 19, 3) := by decide +kernel
theorem dX4_digest_72 : decode cX4_digest 72 = .ok (.invokevirtual 126, 3) := by decide +kernel
theorem dX4_digest_75 : decode cX4_digest 75 = .ok (.ifCond .eq 93, 3) := by decide +kernel
theorem dX4_digest_78 : decode cX4_digest 78 = .ok (.iconst 1, 1) := by decide +kernel
theorem dX4_digest_79 : decode cX4_digest 79 = .ok (.istore_n 3, 1) := by decide +kernel
theorem dX4_digest_80 : decode cX4_digest 80 = .ok (.iload_n 3, 1) := by decide +kernel
theorem dX4_digest_81 : decode cX4_digest 81 = .ok (.iconst 4, 1) := by decide +kernel
theorem dX4_digest_82 : decode cX4_digest 82 = .ok (.if_icmp .gt 35, 3) := by decide +kernel
theorem dX4_digest_85 : decode cX4_digest 85 = .ok (.ldc2_w 195, 3) := by decide +kernel
theorem dX4_digest_88 : decode cX4_digest 88 = .ok (.ldc2_w 195, 3) := by decide +kernel
theorem dX4_digest_91 : decode cX4_digest 91 = .ok (.lload_n 1, 1) := by decide +kernel
theorem dX4_digest_92 : decode cX4_digest 92 = .ok (.lmul, 1) := by decide +kernel
theorem dX4_digest_93 : decode cX4_digest 93 = .ok (.aload_n 0, 1) := by decide +kernel
theorem dX4_digest_94 : decode cX4_digest 94 = .ok (.iload_n 3, 1) := by decide +kernel
theorem dX4_digest_95 : decode cX4_digest 95 = .ok (.iconst 0, 1) := by decide +kernel
theorem dX4_digest_96 : decode cX4_digest 96 = .ok (.invokevirtual 203, 3) := by decide +kernel
theorem dX4_digest_99 : decode cX4_digest 99 = .ok (.i2l, 1) := by decide +kernel
theorem dX4_digest_100 : decode cX4_digest 100 = .ok (.ladd, 1) := by decide +kernel
theorem dX4_digest_101 : decode cX4_digest 101 = .ok (.lmul, 1) := by decide +kernel
theorem dX4_digest_102 : decode cX4_digest 102 = .ok (.aload_n 0, 1) := by decide +kernel
theorem dX4_digest_103 : decode cX4_digest 103 = .ok (.iload_n 3, 1) := by decide +kernel
theorem dX4_digest_104 : decode cX4_digest 104 = .ok (.iconst 1, 1) := by decide +kernel
theorem dX4_digest_105 : decode cX4_digest 105 = .ok (.invokevirtual 203, 3) := by decide +kernel
theorem dX4_digest_108 : decode cX4_digest 108 = .ok (.i2l, 1) := by decide +kernel
theorem dX4_digest_109 : decode cX4_digest 109 = .ok (.ladd, 1) := by decide +kernel
theorem dX4_digest_110 : decode cX4_digest 110 = .ok (.lstore_n 1, 1) := by decide +kernel
theorem dX4_digest_111 : decode cX4_digest 111 = .ok (.iinc 3 1, 3) := by decide +kernel
theorem dX4_digest_114 : decode cX4_digest 114 = .ok (.goto (-34), 3) := by decide +kernel
theorem dX4_digest_117 : decode cX4_digest 117 = .ok (.iconst 0, 1) := by decide +kernel
theorem dX4_digest_118 : decode cX4_digest 118 = .ok (.istore_n 3, 1) := by decide +kernel
theorem dX4_digest_119 : decode cX4_digest 119 = .ok (.iload_n 3, 1) := by decide +kernel
theorem dX4_digest_120 : decode cX4_digest 120 = .ok (.iconst 4, 1) := by decide +kernel
theorem dX4_digest_121 : decode cX4_digest 121 = .ok (.if_icmp .gt 35, 3) := by decide +kernel
theorem dX4_digest_124 : decode cX4_digest 124 = .ok (.ldc2_w 195, 3) := by decide +kernel
theorem dX4_digest_127 : decode cX4_digest 127 = .ok (.ldc2_w 195, 3) := by decide +kernel
theorem dX4_digest_130 : decode cX4_digest 130 = .ok (.lload_n 1, 1) := by decide +kernel
theorem dX4_digest_131 : decode cX4_digest 131 = .ok (.lmul, 1) := by decide +kernel
theorem dX4_digest_132 : decode cX4_digest 132 = .ok (.aload_n 0, 1) := by decide +kernel
theorem dX4_digest_133 : decode cX4_digest 133 = .ok (.iload_n 3, 1) := by decide +kernel
theorem dX4_digest_134 : decode cX4_digest 134 = .ok (.iconst 0, 1) := by decide +kernel
theorem dX4_digest_135 : decode cX4_digest 135 = .ok (.invokevirtual 206, 3) := by decide +kernel
theorem dX4_digest_138 : decode cX4_digest 138 = .ok (.i2l, 1) := by decide +kernel
theorem dX4_digest_139 : decode cX4_digest 139 = .ok (.ladd, 1) := by decide +kernel
theorem dX4_digest_140 : decode cX4_digest 140 = .ok (.lmul, 1) := by decide +kernel
theorem dX4_digest_141 : decode cX4_digest 141 = .ok (.aload_n 0, 1) := by decide +kernel
theorem dX4_digest_142 : decode cX4_digest 142 = .ok (.iload_n 3, 1) := by decide +kernel
theorem dX4_digest_143 : decode cX4_digest 143 = .ok (.iconst 1, 1) := by decide +kernel
theorem dX4_digest_144 : decode cX4_digest 144 = .ok (.invokevirtual 206, 3) := by decide +kernel
theorem dX4_digest_147 : decode cX4_digest 147 = .ok (.i2l, 1) := by decide +kernel
theorem dX4_digest_148 : decode cX4_digest 148 = .ok (.ladd, 1) := by decide +kernel
theorem dX4_digest_149 : decode cX4_digest 149 = .ok (.lstore_n 1, 1) := by decide +kernel
theorem dX4_digest_150 : decode cX4_digest 150 = .ok (.iinc 3 1, 3) := by decide +kernel
theorem dX4_digest_153 : decode cX4_digest 153 = .ok (.goto (-34), 3) := by decide +kernel
theorem dX4_digest_156 : decode cX4_digest 156 = .ok (.ldc2_w 195, 3) := by decide +kernel
theorem dX4_digest_159 : decode cX4_digest 159 = .ok (.lload_n 1, 1) := by decide +kernel
theorem dX4_digest_160 : decode cX4_digest 160 = .ok (.lmul, 1) := by decide +kernel
theorem dX4_digest_161 : decode cX4_digest 161 = .ok (.aload_n 0, 1) := by decide +kernel
theorem dX4_digest_162 : decode cX4_digest 162 = .ok (.invokevirtual 209, 3) := by decide +kernel
theorem dX4_digest_165 : decode cX4_digest 165 = .ok (.i2l, 1) := by decide +kernel
theorem dX4_digest_166 : decode cX4_digest 166 = .ok (.ladd, 1) := by decide +kernel
theorem dX4_digest_167 : decode cX4_digest 167 = .ok (.lstore_n 1, 1) := by decide +kernel
theorem dX4_digest_168 : decode cX4_digest 168 = .ok (.iconst 0, 1) := by decide +kernel
theorem dX4_digest_169 : decode cX4_digest 169 = .ok (.istore_n 3, 1) := by decide +kernel
theorem dX4_digest_170 : decode cX4_digest 170 = .ok (.iload_n 3, 1) := by decide +kernel
theorem dX4_digest_171 : decode cX4_digest 171 = .ok (.aload_n 0, 1) := by decide +kernel
theorem dX4_digest_172 : decode cX4_digest 172 = .ok (.getfield 10, 3) := by decide +kernel
theorem dX4_digest_175 : decode cX4_digest 175 = .ok (.getfield 53, 3) := by decide +kernel
theorem dX4_digest_178 : decode cX4_digest 178 = .ok (.if_icmp .ge 25, 3) := by decide +kernel
theorem dX4_digest_181 : decode cX4_digest 181 = .ok (.ldc2_w 195, 3) := by decide +kernel
theorem dX4_digest_184 : decode cX4_digest 184 = .ok (.lload_n 1, 1) := by decide +kernel
theorem dX4_digest_185 : decode cX4_digest 185 = .ok (.lmul, 1) := by decide +kernel
theorem dX4_digest_186 : decode cX4_digest 186 = .ok (.aload_n 0, 1) := by decide +kernel
theorem dX4_digest_187 : decode cX4_digest 187 = .ok (.getfield 10, 3) := by decide +kernel
theorem dX4_digest_190 : decode cX4_digest 190 = .ok (.iload_n 3, 1) := by decide +kernel
theorem dX4_digest_191 : decode cX4_digest 191 = .ok (.invokevirtual 212, 3) := by decide +kernel
theorem dX4_digest_194 : decode cX4_digest 194 = .ok (.i2l, 1) := by decide +kernel
theorem dX4_digest_195 : decode cX4_digest 195 = .ok (.ladd, 1) := by decide +kernel
theorem dX4_digest_196 : decode cX4_digest 196 = .ok (.lstore_n 1, 1) := by decide +kernel
theorem dX4_digest_197 : decode cX4_digest 197 = .ok (.iinc 3 1, 3) := by decide +kernel
theorem dX4_digest_200 : decode cX4_digest 200 = .ok (.goto (-30), 3) := by decide +kernel
theorem dX4_digest_203 : decode cX4_digest 203 = .ok (.iconst 0, 1) := by decide +kernel
theorem dX4_digest_204 : decode cX4_digest 204 = .ok (.istore_n 3, 1) := by decide +kernel
theorem dX4_digest_205 : decode cX4_digest 205 = .ok (.iload_n 3, 1) := by decide +kernel
theorem dX4_digest_206 : decode cX4_digest 206 = .ok (.bipush 12, 2) := by decide +kernel
theorem dX4_digest_208 : decode cX4_digest 208 = .ok (.if_icmp .ge 22, 3) := by decide +kernel
theorem dX4_digest_211 : decode cX4_digest 211 = .ok (.ldc2_w 195, 3) := by decide +kernel
theorem dX4_digest_214 : decode cX4_digest 214 = .ok (.lload_n 1, 1) := by decide +kernel
theorem dX4_digest_215 : decode cX4_digest 215 = .ok (.lmul, 1) := by decide +kernel
theorem dX4_digest_216 : decode cX4_digest 216 = .ok (.aload_n 0, 1) := by decide +kernel
theorem dX4_digest_217 : decode cX4_digest 217 = .ok (.iload_n 3, 1) := by decide +kernel
theorem dX4_digest_218 : decode cX4_digest 218 = .ok (.invokevirtual 215, 3) := by decide +kernel
theorem dX4_digest_221 : decode cX4_digest 221 = .ok (.i2l, 1) := by decide +kernel
theorem dX4_digest_222 : decode cX4_digest 222 = .ok (.ladd, 1) := by decide +kernel
theorem dX4_digest_223 : decode cX4_digest 223 = .ok (.lstore_n 1, 1) := by decide +kernel
theorem dX4_digest_224 : decode cX4_digest 224 = .ok (.iinc 3 1, 3) := by decide +kernel
theorem dX4_digest_227 : decode cX4_digest 227 = .ok (.goto (-22), 3) := by decide +kernel
theorem dX4_digest_230 : decode cX4_digest 230 = .ok (.lload_n 1, 1) := by decide +kernel
theorem dX4_digest_231 : decode cX4_digest 231 = .ok (.lreturn, 1) := by decide +kernel
set_option maxRecDepth 20000 in
theorem ggX4_runSessions_X4_nextSeed : GoodIn wsX4_runSessions wsX4_nextSeed := goodIn_r _ [8, 9, 10, 11] (by decide +kernel) (by decide +kernel)
set_option maxRecDepth 20000 in
theorem gX4_runSessions_X4_nextSeed : GoodIn wsX4_runSessions (va_wsS RX4 218 yX4_nextSeed wsX4_nextSeed) := goodIn_app (goodIn_of _ (by decide +kernel)) ggX4_runSessions_X4_nextSeed
set_option maxRecDepth 20000 in
theorem ggX4_runSessions_X3_breathe : GoodIn wsX4_runSessions wsX3_breathe := goodIn_r _ [16, 17, 18, 19, 20, 21, 7, 22, 23, 24, 25, 26, 27, 28, 29, 30, 31, 32, 33, 34, 35, 36, 37, 38, 39, 40, 15, 41, 42, 43, 44, 45, 46, 47, 48, 49, 50, 51, 52, 53, 54, 55, 56, 57, 58, 59, 60, 61, 62, 63, 64, 65, 66, 67, 68, 69, 70, 71, 72, 73, 74, 75, 88, 89, 90, 91, 92, 93, 94, 95, 96, 97, 98, 99, 84, 85, 86, 87] (by decide +kernel) (by decide +kernel)
set_option maxRecDepth 20000 in
theorem gX4_runSessions_X3_breathe : GoodIn wsX4_runSessions (wsV RX4 129 RX3 yX3_breathe wsX3_breathe) := goodIn_app (goodIn_of _ (by decide +kernel)) ggX4_runSessions_X3_breathe
theorem dX4_runSessions_0 : decode cX4_runSessions 0 = .ok (.iload_n 2, 1) := by decide +kernel
theorem dX4_runSessions_1 : decode cX4_runSessions 1 = .ok (.i2l, 1) := by decide +kernel
theorem dX4_runSessions_2 : decode cX4_runSessions 2 = .ok (.lstore_n 3, 1) := by decide +kernel
theorem dX4_runSessions_3 : decode cX4_runSessions 3 = .ok (.iconst 0, 1) := by decide +kernel
theorem dX4_runSessions_4 : decode cX4_runSessions 4 = .ok (.istore 5, 2) := by decide +kernel
theorem dX4_runSessions_6 : decode cX4_runSessions 6 = .ok (.iload 5, 2) := by decide +kernel
theorem dX4_runSessions_8 : decode cX4_runSessions 8 = .ok (.iload_n 1, 1) := by decide +kernel
theorem dX4_runSessions_9 : decode cX4_runSessions 9 = .ok (.if_icmp .ge 75, 3) := by decide +kernel
theorem dX4_runSessions_12 : decode cX4_runSessions 12 = .ok (.iconst 0, 1) := by decide +kernel
theorem dX4_runSessions_13 : decode cX4_runSessions 13 = .ok (.istore 6, 2) := by decide +kernel
theorem dX4_runSessions_15 : decode cX4_runSessions 15 = .ok (.iconst 0, 1) := by decide +kernel
theorem dX4_runSessions_16 : decode cX4_runSessions 16 = .ok (.istore 7, 2) := by decide +kernel
theorem dX4_runSessions_18 : decode cX4_runSessions 18 = .ok (.iload 7, 2) := by decide +kernel
theorem dX4_runSessions_20 : decode cX4_runSessions 20 = .ok (.aload_n 0, 1) := by decide +kernel
theorem dX4_runSessions_21 : decode cX4_runSessions 21 = .ok (.getfield 19, 3) := by decide +kernel
theorem dX4_runSessions_24 : decode cX4_runSessions 24 = .ok (.getfield 78, 3) := by decide +kernel
theorem dX4_runSessions_27 : decode cX4_runSessions 27 = .ok (.if_icmp .ge 37, 3) := by decide +kernel
theorem dX4_runSessions_30 : decode cX4_runSessions 30 = .ok (.lload_n 3, 1) := by decide +kernel
theorem dX4_runSessions_31 : decode cX4_runSessions 31 = .ok (.invokestatic 218, 3) := by decide +kernel
theorem dX4_runSessions_34 : decode cX4_runSessions 34 = .ok (.lstore_n 3, 1) := by decide +kernel
theorem dX4_runSessions_35 : decode cX4_runSessions 35 = .ok (.lload_n 3, 1) := by decide +kernel
theorem dX4_runSessions_36 : decode cX4_runSessions 36 = .ok (.ldc2_w 222, 3) := by decide +kernel
theorem dX4_runSessions_39 : decode cX4_runSessions 39 = .ok (.ldiv, 1) := by decide +kernel
theorem dX4_runSessions_40 : decode cX4_runSessions 40 = .ok (.ldc2_w 224, 3) := by decide +kernel
theorem dX4_runSessions_43 : decode cX4_runSessions 43 = .ok (.lrem, 1) := by decide +kernel
theorem dX4_runSessions_44 : decode cX4_runSessions 44 = .ok (.lconst 0, 1) := by decide +kernel
theorem dX4_runSessions_45 : decode cX4_runSessions 45 = .ok (.lcmp, 1) := by decide +kernel
theorem dX4_runSessions_46 : decode cX4_runSessions 46 = .ok (.ifCond .ne 12, 3) := by decide +kernel
theorem dX4_runSessions_49 : decode cX4_runSessions 49 = .ok (.iload 6, 2) := by decide +kernel
theorem dX4_runSessions_51 : decode cX4_runSessions 51 = .ok (.iconst 1, 1) := by decide +kernel
theorem dX4_runSessions_52 : decode cX4_runSessions 52 = .ok (.iload 7, 2) := by decide +kernel
theorem dX4_runSessions_54 : decode cX4_runSessions 54 = .ok (.ishl, 1) := by decide +kernel
theorem dX4_runSessions_55 : decode cX4_runSessions 55 = .ok (.ior, 1) := by decide +kernel
theorem dX4_runSessions_56 : decode cX4_runSessions 56 = .ok (.istore 6, 2) := by decide +kernel
theorem dX4_runSessions_58 : decode cX4_runSessions 58 = .ok (.iinc 7 1, 3) := by decide +kernel
theorem dX4_runSessions_61 : decode cX4_runSessions 61 = .ok (.goto (-43), 3) := by decide +kernel
theorem dX4_runSessions_64 : decode cX4_runSessions 64 = .ok (.aload_n 0, 1) := by decide +kernel
theorem dX4_runSessions_65 : decode cX4_runSessions 65 = .ok (.getfield 33, 3) := by decide +kernel
theorem dX4_runSessions_68 : decode cX4_runSessions 68 = .ok (.aload_n 0, 1) := by decide +kernel
theorem dX4_runSessions_69 : decode cX4_runSessions 69 = .ok (.getfield 19, 3) := by decide +kernel
theorem dX4_runSessions_72 : decode cX4_runSessions 72 = .ok (.iload 6, 2) := by decide +kernel
theorem dX4_runSessions_74 : decode cX4_runSessions 74 = .ok (.invokevirtual 129, 3) := by decide +kernel
theorem dX4_runSessions_77 : decode cX4_runSessions 77 = .ok (.pop, 1) := by decide +kernel
theorem dX4_runSessions_78 : decode cX4_runSessions 78 = .ok (.iinc 5 1, 3) := by decide +kernel
theorem dX4_runSessions_81 : decode cX4_runSessions 81 = .ok (.goto (-75), 3) := by decide +kernel
theorem dX4_runSessions_84 : decode cX4_runSessions 84 = .ok (.lload_n 3, 1) := by decide +kernel
theorem dX4_runSessions_85 : decode cX4_runSessions 85 = .ok (.l2i, 1) := by decide +kernel
theorem dX4_runSessions_86 : decode cX4_runSessions 86 = .ok (.ireturn, 1) := by decide +kernel
theorem dX4_nextSeed_0 : decode cX4_nextSeed 0 = .ok (.ldc2_w 226, 3) := by decide +kernel
theorem dX4_nextSeed_3 : decode cX4_nextSeed 3 = .ok (.lload_n 0, 1) := by decide +kernel
theorem dX4_nextSeed_4 : decode cX4_nextSeed 4 = .ok (.lmul, 1) := by decide +kernel
theorem dX4_nextSeed_5 : decode cX4_nextSeed 5 = .ok (.ldc2_w 228, 3) := by decide +kernel
theorem dX4_nextSeed_8 : decode cX4_nextSeed 8 = .ok (.ladd, 1) := by decide +kernel
theorem dX4_nextSeed_9 : decode cX4_nextSeed 9 = .ok (.ldc2_w 230, 3) := by decide +kernel
theorem dX4_nextSeed_12 : decode cX4_nextSeed 12 = .ok (.lrem, 1) := by decide +kernel
theorem dX4_nextSeed_13 : decode cX4_nextSeed 13 = .ok (.lreturn, 1) := by decide +kernel
theorem dX4_isIn_0 : decode cX4_isIn 0 = .ok (.iload_n 0, 1) := by decide +kernel
theorem dX4_isIn_1 : decode cX4_isIn 1 = .ok (.ifCond .lt 21, 3) := by decide +kernel
theorem dX4_isIn_4 : decode cX4_isIn 4 = .ok (.iload_n 0, 1) := by decide +kernel
theorem dX4_isIn_5 : decode cX4_isIn 5 = .ok (.iconst 5, 1) := by decide +kernel
theorem dX4_isIn_6 : decode cX4_isIn 6 = .ok (.if_icmp .ge 16, 3) := by decide +kernel
theorem dX4_isIn_9 : decode cX4_isIn 9 = .ok (.iload_n 1, 1) := by decide +kernel
theorem dX4_isIn_10 : decode cX4_isIn 10 = .ok (.iload_n 0, 1) := by decide +kernel
theorem dX4_isIn_11 : decode cX4_isIn 11 = .ok (.ishr, 1) := by decide +kernel
theorem dX4_isIn_12 : decode cX4_isIn 12 = .ok (.iconst 1, 1) := by decide +kernel
theorem dX4_isIn_13 : decode cX4_isIn 13 = .ok (.iand, 1) := by decide +kernel
theorem dX4_isIn_14 : decode cX4_isIn 14 = .ok (.iconst 1, 1) := by decide +kernel
theorem dX4_isIn_15 : decode cX4_isIn 15 = .ok (.if_icmp .ne 7, 3) := by decide +kernel
theorem dX4_isIn_18 : decode cX4_isIn 18 = .ok (.iconst 1, 1) := by decide +kernel
theorem dX4_isIn_19 : decode cX4_isIn 19 = .ok (.goto 4, 3) := by decide +kernel
theorem dX4_isIn_22 : decode cX4_isIn 22 = .ok (.iconst 0, 1) := by decide +kernel
theorem dX4_isIn_23 : decode cX4_isIn 23 = .ok (.ireturn, 1) := by decide +kernel
theorem dX4_at_0 : decode cX4_at 0 = .ok (.aload_n 0, 1) := by decide +kernel
theorem dX4_at_1 : decode cX4_at 1 = .ok (.ifnull 19, 3) := by decide +kernel
theorem dX4_at_4 : decode cX4_at 4 = .ok (.iload_n 1, 1) := by decide +kernel
theorem dX4_at_5 : decode cX4_at 5 = .ok (.ifCond .lt 15, 3) := by decide +kernel
theorem dX4_at_8 : decode cX4_at 8 = .ok (.iload_n 1, 1) := by decide +kernel
theorem dX4_at_9 : decode cX4_at 9 = .ok (.aload_n 0, 1) := by decide +kernel
theorem dX4_at_10 : decode cX4_at 10 = .ok (.arraylength, 1) := by decide +kernel
theorem dX4_at_11 : decode cX4_at 11 = .ok (.if_icmp .ge 9, 3) := by decide +kernel
theorem dX4_at_14 : decode cX4_at 14 = .ok (.aload_n 0, 1) := by decide +kernel
theorem dX4_at_15 : decode cX4_at 15 = .ok (.iload_n 1, 1) := by decide +kernel
theorem dX4_at_16 : decode cX4_at 16 = .ok (.iaload, 1) := by decide +kernel
theorem dX4_at_17 : decode cX4_at 17 = .ok (.goto 4, 3) := by decide +kernel
theorem dX4_at_20 : decode cX4_at 20 = .ok (.iconst 0, 1) := by decide +kernel
theorem dX4_at_21 : decode cX4_at 21 = .ok (.ireturn, 1) := by decide +kernel
theorem dX4_put_0 : decode cX4_put 0 = .ok (.aload_n 0, 1) := by decide +kernel
theorem dX4_put_1 : decode cX4_put 1 = .ok (.ifnull 17, 3) := by decide +kernel
theorem dX4_put_4 : decode cX4_put 4 = .ok (.iload_n 1, 1) := by decide +kernel
theorem dX4_put_5 : decode cX4_put 5 = .ok (.ifCond .lt 13, 3) := by decide +kernel
theorem dX4_put_8 : decode cX4_put 8 = .ok (.iload_n 1, 1) := by decide +kernel
theorem dX4_put_9 : decode cX4_put 9 = .ok (.aload_n 0, 1) := by decide +kernel
theorem dX4_put_10 : decode cX4_put 10 = .ok (.arraylength, 1) := by decide +kernel
theorem dX4_put_11 : decode cX4_put 11 = .ok (.if_icmp .ge 7, 3) := by decide +kernel
theorem dX4_put_14 : decode cX4_put 14 = .ok (.aload_n 0, 1) := by decide +kernel
theorem dX4_put_15 : decode cX4_put 15 = .ok (.iload_n 1, 1) := by decide +kernel
theorem dX4_put_16 : decode cX4_put 16 = .ok (.iload_n 2, 1) := by decide +kernel
theorem dX4_put_17 : decode cX4_put 17 = .ok (.iastore, 1) := by decide +kernel
theorem dX4_put_18 : decode cX4_put 18 = .ok (.return_, 1) := by decide +kernel
theorem dX4_fill_0 : decode cX4_fill 0 = .ok (.aload_n 0, 1) := by decide +kernel
theorem dX4_fill_1 : decode cX4_fill 1 = .ok (.ifnull 21, 3) := by decide +kernel
theorem dX4_fill_4 : decode cX4_fill 4 = .ok (.iconst 0, 1) := by decide +kernel
theorem dX4_fill_5 : decode cX4_fill 5 = .ok (.istore_n 2, 1) := by decide +kernel
theorem dX4_fill_6 : decode cX4_fill 6 = .ok (.iload_n 2, 1) := by decide +kernel
theorem dX4_fill_7 : decode cX4_fill 7 = .ok (.aload_n 0, 1) := by decide +kernel
theorem dX4_fill_8 : decode cX4_fill 8 = .ok (.arraylength, 1) := by decide +kernel
theorem dX4_fill_9 : decode cX4_fill 9 = .ok (.if_icmp .ge 13, 3) := by decide +kernel
theorem dX4_fill_12 : decode cX4_fill 12 = .ok (.aload_n 0, 1) := by decide +kernel
theorem dX4_fill_13 : decode cX4_fill 13 = .ok (.iload_n 2, 1) := by decide +kernel
theorem dX4_fill_14 : decode cX4_fill 14 = .ok (.iload_n 1, 1) := by decide +kernel
theorem dX4_fill_15 : decode cX4_fill 15 = .ok (.iastore, 1) := by decide +kernel
theorem dX4_fill_16 : decode cX4_fill 16 = .ok (.iinc 2 1, 3) := by decide +kernel
theorem dX4_fill_19 : decode cX4_fill 19 = .ok (.goto (-13), 3) := by decide +kernel
theorem dX4_fill_22 : decode cX4_fill 22 = .ok (.return_, 1) := by decide +kernel
set_option maxRecDepth 20000 in
theorem ggX4_copy_X4_at : GoodIn wsX4_copy wsX4_at := goodIn_r _ [4] (by decide +kernel) (by decide +kernel)
set_option maxRecDepth 20000 in
theorem gX4_copy_X4_at : GoodIn wsX4_copy (va_wsS RX4 110 yX4_at wsX4_at) := goodIn_app (goodIn_of _ (by decide +kernel)) ggX4_copy_X4_at
theorem dX4_copy_0 : decode cX4_copy 0 = .ok (.aload_n 1, 1) := by decide +kernel
theorem dX4_copy_1 : decode cX4_copy 1 = .ok (.ifnull 25, 3) := by decide +kernel
theorem dX4_copy_4 : decode cX4_copy 4 = .ok (.iconst 0, 1) := by decide +kernel
theorem dX4_copy_5 : decode cX4_copy 5 = .ok (.istore_n 2, 1) := by decide +kernel
theorem dX4_copy_6 : decode cX4_copy 6 = .ok (.iload_n 2, 1) := by decide +kernel
theorem dX4_copy_7 : decode cX4_copy 7 = .ok (.aload_n 1, 1) := by decide +kernel
theorem dX4_copy_8 : decode cX4_copy 8 = .ok (.arraylength, 1) := by decide +kernel
theorem dX4_copy_9 : decode cX4_copy 9 = .ok (.if_icmp .ge 17, 3) := by decide +kernel
theorem dX4_copy_12 : decode cX4_copy 12 = .ok (.aload_n 1, 1) := by decide +kernel
theorem dX4_copy_13 : decode cX4_copy 13 = .ok (.iload_n 2, 1) := by decide +kernel
theorem dX4_copy_14 : decode cX4_copy 14 = .ok (.aload_n 0, 1) := by decide +kernel
theorem dX4_copy_15 : decode cX4_copy 15 = .ok (.iload_n 2, 1) := by decide +kernel
theorem dX4_copy_16 : decode cX4_copy 16 = .ok (.invokestatic 110, 3) := by decide +kernel
theorem dX4_copy_19 : decode cX4_copy 19 = .ok (.iastore, 1) := by decide +kernel
theorem dX4_copy_20 : decode cX4_copy 20 = .ok (.iinc 2 1, 3) := by decide +kernel
theorem dX4_copy_23 : decode cX4_copy 23 = .ok (.goto (-17), 3) := by decide +kernel
theorem dX4_copy_26 : decode cX4_copy 26 = .ok (.return_, 1) := by decide +kernel
end
section
theorem dX5_init_0 : decode cX5_init 0 = .ok (.aload_n 0, 1) := by decide +kernel
theorem dX5_init_1 : decode cX5_init 1 = .ok (.invokespecial 1, 3) := by decide +kernel
theorem dX5_init_4 : decode cX5_init 4 = .ok (.aload_n 0, 1) := by decide +kernel
theorem dX5_init_5 : decode cX5_init 5 = .ok (.bipush 18, 2) := by decide +kernel
theorem dX5_init_7 : decode cX5_init 7 = .ok (.newarray .int, 2) := by decide +kernel
theorem dX5_init_9 : decode cX5_init 9 = .ok (.putfield 7, 3) := by decide +kernel
theorem dX5_init_12 : decode cX5_init 12 = .ok (.aload_n 0, 1) := by decide +kernel
theorem dX5_init_13 : decode cX5_init 13 = .ok (.bipush 10, 2) := by decide +kernel
theorem dX5_init_15 : decode cX5_init 15 = .ok (.newarray .int, 2) := by decide +kernel
theorem dX5_init_17 : decode cX5_init 17 = .ok (.putfield 13, 3) := by decide +kernel
theorem dX5_init_20 : decode cX5_init 20 = .ok (.aload_n 0, 1) := by decide +kernel
theorem dX5_init_21 : decode cX5_init 21 = .ok (.bipush 15, 2) := by decide +kernel
theorem dX5_init_23 : decode cX5_init 23 = .ok (.newarray .int, 2) := by decide +kernel
theorem dX5_init_25 : decode cX5_init 25 = .ok (.putfield 16, 3) := by decide +kernel
theorem dX5_init_28 : decode cX5_init 28 = .ok (.aload_n 0, 1) := by decide +kernel
theorem dX5_init_29 : decode cX5_init 29 = .ok (.bipush 64, 2) := by decide +kernel
theorem dX5_init_31 : decode cX5_init 31 = .ok (.newarray .int, 2) := by decide +kernel
theorem dX5_init_33 : decode cX5_init 33 = .ok (.putfield 19, 3) := by decide +kernel
theorem dX5_init_36 : decode cX5_init 36 = .ok (.aload_n 0, 1) := by decide +kernel
theorem dX5_init_37 : decode cX5_init 37 = .ok (.bipush 64, 2) := by decide +kernel
theorem dX5_init_39 : decode cX5_init 39 = .ok (.newarray .int, 2) := by decide +kernel
theorem dX5_init_41 : decode cX5_init 41 = .ok (.putfield 22, 3) := by decide +kernel
theorem dX5_init_44 : decode cX5_init 44 = .ok (.aload_n 0, 1) := by decide +kernel
theorem dX5_init_45 : decode cX5_init 45 = .ok (.bipush 64, 2) := by decide +kernel
theorem dX5_init_47 : decode cX5_init 47 = .ok (.newarray .int, 2) := by decide +kernel
theorem dX5_init_49 : decode cX5_init 49 = .ok (.putfield 25, 3) := by decide +kernel
theorem dX5_init_52 : decode cX5_init 52 = .ok (.aload_n 0, 1) := by decide +kernel
theorem dX5_init_53 : decode cX5_init 53 = .ok (.bipush 16, 2) := by decide +kernel
theorem dX5_init_55 : decode cX5_init 55 = .ok (.newarray .int, 2) := by decide +kernel
theorem dX5_init_57 : decode cX5_init 57 = .ok (.putfield 28, 3) := by decide +kernel
theorem dX5_init_60 : decode cX5_init 60 = .ok (.aload_n 0, 1) := by decide +kernel
theorem dX5_init_61 : decode cX5_init 61 = .ok (.sipush 448, 3) := by decide +kernel
theorem dX5_init_64 : decode cX5_init 64 = .ok (.newarray .int, 2) := by decide +kernel
theorem dX5_init_66 : decode cX5_init 66 = .ok (.putfield 31, 3) := by decide +kernel
theorem dX5_init_69 : decode cX5_init 69 = .ok (.aload_n 0, 1) := by decide +kernel
theorem dX5_init_70 : decode cX5_init 70 = .ok (.sipush 448, 3) := by decide +kernel
theorem dX5_init_73 : decode cX5_init 73 = .ok (.newarray .int, 2) := by decide +kernel
theorem dX5_init_75 : decode cX5_init 75 = .ok (.putfield 34, 3) := by decide +kernel
theorem dX5_init_78 : decode cX5_init 78 = .ok (.aload_n 0, 1) := by decide +kernel
theorem dX5_init_79 : decode cX5_init 79 = .ok (.bipush 8, 2) := by decide +kernel
theorem dX5_init_81 : decode cX5_init 81 = .ok (.newarray .int, 2) := by decide +kernel
theorem dX5_init_83 : decode cX5_init 83 = .ok (.putfield 37, 3) := by decide +kernel
theorem dX5_init_86 : decode cX5_init 86 = .ok (.aload_n 0, 1) := by decide +kernel
theorem dX5_init_87 : decode cX5_init 87 = .ok (.bipush 15, 2) := by decide +kernel
theorem dX5_init_89 : decode cX5_init 89 = .ok (.newarray .int, 2) := by decide +kernel
theorem dX5_init_91 : decode cX5_init 91 = .ok (.putfield 40, 3) := by decide +kernel
theorem dX5_init_94 : decode cX5_init 94 = .ok (.aload_n 0, 1) := by decide +kernel
theorem dX5_init_95 : decode cX5_init 95 = .ok (.bipush 8, 2) := by decide +kernel
theorem dX5_init_97 : decode cX5_init 97 = .ok (.newarray .int, 2) := by decide +kernel
theorem dX5_init_99 : decode cX5_init 99 = .ok (.putfield 43, 3) := by decide +kernel
theorem dX5_init_102 : decode cX5_init 102 = .ok (.aload_n 0, 1) := by decide +kernel
theorem dX5_init_103 : decode cX5_init 103 = .ok (.bipush 16, 2) := by decide +kernel
theorem dX5_init_105 : decode cX5_init 105 = .ok (.newarray .int, 2) := by decide +kernel
theorem dX5_init_107 : decode cX5_init 107 = .ok (.putfield 46, 3) := by decide +kernel
theorem dX5_init_110 : decode cX5_init 110 = .ok (.aload_n 0, 1) := by decide +kernel
theorem dX5_init_111 : decode cX5_init 111 = .ok (.bipush 15, 2) := by decide +kernel
theorem dX5_init_113 : decode cX5_init 113 = .ok (.newarray .int, 2) := by decide +kernel
theorem dX5_init_115 : decode cX5_init 115 = .ok (.putfield 49, 3) := by decide +kernel
theorem dX5_init_118 : decode cX5_init 118 = .ok (.aload_n 0, 1) := by decide +kernel
theorem dX5_init_119 : decode cX5_init 119 = .ok (.bipush 8, 2) := by decide +kernel
theorem dX5_init_121 : decode cX5_init 121 = .ok (.newarray .int, 2) := by decide +kernel
theorem dX5_init_123 : decode cX5_init 123 = .ok (.putfield 52, 3) := by decide +kernel
theorem dX5_init_126 : decode cX5_init 126 = .ok (.aload_n 0, 1) := by decide +kernel
theorem dX5_init_127 : decode cX5_init 127 = .ok (.iconst (-1), 1) := by decide +kernel
theorem dX5_init_128 : decode cX5_init 128 = .ok (.putfield 55, 3) := by decide +kernel
theorem dX5_init_131 : decode cX5_init 131 = .ok (.aload_n 0, 1) := by decide +kernel
theorem dX5_init_132 : decode cX5_init 132 = .ok (.bipush 63, 2) := by decide +kernel
theorem dX5_init_134 : decode cX5_init 134 = .ok (.putfield 59, 3) := by decide +kernel
theorem dX5_init_137 : decode cX5_init 137 = .ok (.return_, 1) := by decide +kernel
theorem dX5_in_0 : decode cX5_in 0 = .ok (.lload_n 0, 1) := by decide +kernel
theorem dX5_in_1 : decode cX5_in 1 = .ok (.lload_n 2, 1) := by decide +kernel
theorem dX5_in_2 : decode cX5_in 2 = .ok (.lcmp, 1) := by decide +kernel
theorem dX5_in_3 : decode cX5_in 3 = .ok (.ifCond .lt 14, 3) := by decide +kernel
theorem dX5_in_6 : decode cX5_in 6 = .ok (.lload_n 0, 1) := by decide +kernel
theorem dX5_in_7 : decode cX5_in 7 = .ok (.lload 4, 2) := by decide +kernel
theorem dX5_in_9 : decode cX5_in 9 = .ok (.lcmp, 1) := by decide +kernel
theorem dX5_in_10 : decode cX5_in 10 = .ok (.ifCond .gt 7, 3) := by decide +kernel
theorem dX5_in_13 : decode cX5_in 13 = .ok (.iconst 1, 1) := by decide +kernel
theorem dX5_in_14 : decode cX5_in 14 = .ok (.goto 4, 3) := by decide +kernel
theorem dX5_in_17 : decode cX5_in 17 = .ok (.iconst 0, 1) := by decide +kernel
theorem dX5_in_18 : decode cX5_in 18 = .ok (.ireturn, 1) := by decide +kernel
theorem dX5_copy_0 : decode cX5_copy 0 = .ok (.iconst 0, 1) := by decide +kernel
theorem dX5_copy_1 : decode cX5_copy 1 = .ok (.istore_n 2, 1) := by decide +kernel
theorem dX5_copy_2 : decode cX5_copy 2 = .ok (.iload_n 2, 1) := by decide +kernel
theorem dX5_copy_3 : decode cX5_copy 3 = .ok (.aload_n 0, 1) := by decide +kernel
theorem dX5_copy_4 : decode cX5_copy 4 = .ok (.arraylength, 1) := by decide +kernel
theorem dX5_copy_5 : decode cX5_copy 5 = .ok (.if_icmp .ge 15, 3) := by decide +kernel
theorem dX5_copy_8 : decode cX5_copy 8 = .ok (.aload_n 1, 1) := by decide +kernel
theorem dX5_copy_9 : decode cX5_copy 9 = .ok (.iload_n 2, 1) := by decide +kernel
theorem dX5_copy_10 : decode cX5_copy 10 = .ok (.aload_n 0, 1) := by decide +kernel
theorem dX5_copy_11 : decode cX5_copy 11 = .ok (.iload_n 2, 1) := by decide +kernel
theorem dX5_copy_12 : decode cX5_copy 12 = .ok (.iaload, 1) := by decide +kernel
theorem dX5_copy_13 : decode cX5_copy 13 = .ok (.iastore, 1) := by decide +kernel
theorem dX5_copy_14 : decode cX5_copy 14 = .ok (.iinc 2 1, 3) := by decide +kernel
theorem dX5_copy_17 : decode cX5_copy 17 = .ok (.goto (-15), 3) := by decide +kernel
theorem dX5_copy_20 : decode cX5_copy 20 = .ok (.return_, 1) := by decide +kernel
set_option maxRecDepth 20000 in
theorem ggX5_letter_X5_in : GoodIn wsX5_letter wsX5_in := goodIn_r _ [7] (by decide +kernel) (by decide +kernel)
set_option maxRecDepth 20000 in
theorem gX5_letter_X5_in : GoodIn wsX5_letter (va_wsS RX5 64 yX5_in wsX5_in) := goodIn_app (goodIn_of _ (by decide +kernel)) ggX5_letter_X5_in
theorem dX5_letter_0 : decode cX5_letter 0 = .ok (.iload_n 1, 1) := by decide +kernel
theorem dX5_letter_1 : decode cX5_letter 1 = .ok (.i2l, 1) := by decide +kernel
theorem dX5_letter_2 : decode cX5_letter 2 = .ok (.lconst 1, 1) := by decide +kernel
theorem dX5_letter_3 : decode cX5_letter 3 = .ok (.ldc2_w 62, 3) := by decide +kernel
theorem dX5_letter_6 : decode cX5_letter 6 = .ok (.invokestatic 64, 3) := by decide +kernel
theorem dX5_letter_9 : decode cX5_letter 9 = .ok (.ifCond .ne 6, 3) := by decide +kernel
theorem dX5_letter_12 : decode cX5_letter 12 = .ok (.bipush (-102), 2) := by decide +kernel
theorem dX5_letter_14 : decode cX5_letter 14 = .ok (.ireturn, 1) := by decide +kernel
theorem dX5_letter_15 : decode cX5_letter 15 = .ok (.aload_n 0, 1) := by decide +kernel
theorem dX5_letter_16 : decode cX5_letter 16 = .ok (.getfield 68, 3) := by decide +kernel
theorem dX5_letter_19 : decode cX5_letter 19 = .ok (.bipush 18, 2) := by decide +kernel
theorem dX5_letter_21 : decode cX5_letter 21 = .ok (.if_icmp .ne 6, 3) := by decide +kernel
theorem dX5_letter_24 : decode cX5_letter 24 = .ok (.bipush (-104), 2) := by decide +kernel
theorem dX5_letter_26 : decode cX5_letter 26 = .ok (.ireturn, 1) := by decide +kernel
theorem dX5_letter_27 : decode cX5_letter 27 = .ok (.aload_n 0, 1) := by decide +kernel
theorem dX5_letter_28 : decode cX5_letter 28 = .ok (.getfield 7, 3) := by decide +kernel
theorem dX5_letter_31 : decode cX5_letter 31 = .ok (.aload_n 0, 1) := by decide +kernel
theorem dX5_letter_32 : decode cX5_letter 32 = .ok (.getfield 68, 3) := by decide +kernel
theorem dX5_letter_35 : decode cX5_letter 35 = .ok (.iload_n 1, 1) := by decide +kernel
theorem dX5_letter_36 : decode cX5_letter 36 = .ok (.iastore, 1) := by decide +kernel
theorem dX5_letter_37 : decode cX5_letter 37 = .ok (.aload_n 0, 1) := by decide +kernel
theorem dX5_letter_38 : decode cX5_letter 38 = .ok (.dup, 1) := by decide +kernel
theorem dX5_letter_39 : decode cX5_letter 39 = .ok (.getfield 68, 3) := by decide +kernel
theorem dX5_letter_42 : decode cX5_letter 42 = .ok (.iconst 1, 1) := by decide +kernel
theorem dX5_letter_43 : decode cX5_letter 43 = .ok (.iadd, 1) := by decide +kernel
theorem dX5_letter_44 : decode cX5_letter 44 = .ok (.putfield 68, 3) := by decide +kernel
theorem dX5_letter_47 : decode cX5_letter 47 = .ok (.aload_n 0, 1) := by decide +kernel
theorem dX5_letter_48 : decode cX5_letter 48 = .ok (.getfield 68, 3) := by decide +kernel
theorem dX5_letter_51 : decode cX5_letter 51 = .ok (.ireturn, 1) := by decide +kernel
theorem dX5_blank_0 : decode cX5_blank 0 = .ok (.aload_n 0, 1) := by decide +kernel
theorem dX5_blank_1 : decode cX5_blank 1 = .ok (.getfield 68, 3) := by decide +kernel
theorem dX5_blank_4 : decode cX5_blank 4 = .ok (.istore_n 1, 1) := by decide +kernel
theorem dX5_blank_5 : decode cX5_blank 5 = .ok (.aload_n 0, 1) := by decide +kernel
theorem dX5_blank_6 : decode cX5_blank 6 = .ok (.iconst 0, 1) := by decide +kernel
theorem dX5_blank_7 : decode cX5_blank 7 = .ok (.putfield 68, 3) := by decide +kernel
theorem dX5_blank_10 : decode cX5_blank 10 = .ok (.iload_n 1, 1) := by decide +kernel
theorem dX5_blank_11 : decode cX5_blank 11 = .ok (.ireturn, 1) := by decide +kernel
theorem dX5_kindBy_0 : decode cX5_kindBy 0 = .ok (.iload_n 0, 1) := by decide +kernel
theorem dX5_kindBy_1 : decode cX5_kindBy 1 = .ok (.bipush 115, 2) := by decide +kernel
theorem dX5_kindBy_3 : decode cX5_kindBy 3 = .ok (.if_icmp .ne 7, 3) := by decide +kernel
theorem dX5_kindBy_6 : decode cX5_kindBy 6 = .ok (.iconst 0, 1) := by decide +kernel
theorem dX5_kindBy_7 : decode cX5_kindBy 7 = .ok (.goto 44, 3) := by decide +kernel
theorem dX5_kindBy_10 : decode cX5_kindBy 10 = .ok (.iload_n 0, 1) := by decide +kernel
theorem dX5_kindBy_11 : decode cX5_kindBy 11 = .ok (.bipush 119, 2) := by decide +kernel
theorem dX5_kindBy_13 : decode cX5_kindBy 13 = .ok (.if_icmp .ne 7, 3) := by decide +kernel
theorem dX5_kindBy_16 : decode cX5_kindBy 16 = .ok (.iconst 1, 1) := by decide +kernel
theorem dX5_kindBy_17 : decode cX5_kindBy 17 = .ok (.goto 34, 3) := by decide +kernel
theorem dX5_kindBy_20 : decode cX5_kindBy 20 = .ok (.iload_n 0, 1) := by decide +kernel
theorem dX5_kindBy_21 : decode cX5_kindBy 21 = .ok (.bipush 101, 2) := by decide +kernel
theorem dX5_kindBy_23 : decode cX5_kindBy 23 = .ok (.if_icmp .ne 7, 3) := by decide +kernel
theorem dX5_kindBy_26 : decode cX5_kindBy 26 = .ok (.iconst 2, 1) := by decide +kernel
theorem dX5_kindBy_27 : decode cX5_kindBy 27 = .ok (.goto 24, 3) := by decide +kernel
theorem dX5_kindBy_30 : decode cX5_kindBy 30 = .ok (.iload_n 0, 1) := by decide +kernel
theorem dX5_kindBy_31 : decode cX5_kindBy 31 = .ok (.bipush 102, 2) := by decide +kernel
theorem dX5_kindBy_33 : decode cX5_kindBy 33 = .ok (.if_icmp .ne 7, 3) := by decide +kernel
theorem dX5_kindBy_36 : decode cX5_kindBy 36 = .ok (.iconst 3, 1) := by decide +kernel
theorem dX5_kindBy_37 : decode cX5_kindBy 37 = .ok (.goto 14, 3) := by decide +kernel
theorem dX5_kindBy_40 : decode cX5_kindBy 40 = .ok (.iload_n 0, 1) := by decide +kernel
theorem dX5_kindBy_41 : decode cX5_kindBy 41 = .ok (.bipush 109, 2) := by decide +kernel
theorem dX5_kindBy_43 : decode cX5_kindBy 43 = .ok (.if_icmp .ne 7, 3) := by decide +kernel
theorem dX5_kindBy_46 : decode cX5_kindBy 46 = .ok (.iconst 4, 1) := by decide +kernel
theorem dX5_kindBy_47 : decode cX5_kindBy 47 = .ok (.goto 4, 3) := by decide +kernel
theorem dX5_kindBy_50 : decode cX5_kindBy 50 = .ok (.iconst (-1), 1) := by decide +kernel
theorem dX5_kindBy_51 : decode cX5_kindBy 51 = .ok (.ireturn, 1) := by decide +kernel
set_option maxRecDepth 20000 in
theorem ggX5_go_X5_kindBy : GoodIn wsX5_go wsX5_kindBy := goodIn_r _ [9] (by decide +kernel) (by decide +kernel)
set_option maxRecDepth 20000 in
theorem gX5_go_X5_kindBy : GoodIn wsX5_go (va_wsS RX5 77 yX5_kindBy wsX5_kindBy) := goodIn_app (goodIn_of _ (by decide +kernel)) ggX5_go_X5_kindBy
set_option maxRecDepth 20000 in
theorem ggX5_go_X5_in : GoodIn wsX5_go wsX5_in := goodIn_r _ [12] (by decide +kernel) (by decide +kernel)
set_option maxRecDepth 20000 in
theorem gX5_go_X5_in : GoodIn wsX5_go (va_wsS RX5 64 yX5_in wsX5_in) := goodIn_app (goodIn_of _ (by decide +kernel)) ggX5_go_X5_in
theorem dX5_go_0 : decode cX5_go 0 = .ok (.iload_n 1, 1) := by decide +kernel
theorem dX5_go_1 : decode cX5_go 1 = .ok (.bipush 48, 2) := by decide +kernel
theorem dX5_go_3 : decode cX5_go 3 = .ok (.isub, 1) := by decide +kernel
theorem dX5_go_4 : decode cX5_go 4 = .ok (.istore_n 2, 1) := by decide +kernel
theorem dX5_go_5 : decode cX5_go 5 = .ok (.aload_n 0, 1) := by decide +kernel
theorem dX5_go_6 : decode cX5_go 6 = .ok (.getfield 71, 3) := by decide +kernel
theorem dX5_go_9 : decode cX5_go 9 = .ok (.istore_n 3, 1) := by decide +kernel
theorem dX5_go_10 : decode cX5_go 10 = .ok (.aload_n 0, 1) := by decide +kernel
theorem dX5_go_11 : decode cX5_go 11 = .ok (.dup, 1) := by decide +kernel
theorem dX5_go_12 : decode cX5_go 12 = .ok (.getfield 71, 3) := by decide +kernel
theorem dX5_go_15 : decode cX5_go 15 = .ok (.iconst 1, 1) := by decide +kernel
theorem dX5_go_16 : decode cX5_go 16 = .ok (.iadd, 1) := by decide +kernel
theorem dX5_go_17 : decode cX5_go 17 = .ok (.putfield 71, 3) := by decide +kernel
theorem dX5_go_20 : decode cX5_go 20 = .ok (.iload_n 3, 1) := by decide +kernel
theorem dX5_go_21 : decode cX5_go 21 = .ok (.tableswitch 164 0 3 #[31, 60, 92, 149], 31) := by decide +kernel
theorem dX5_go_52 : decode cX5_go 52 = .ok (.aload_n 0, 1) := by decide +kernel
theorem dX5_go_53 : decode cX5_go 53 = .ok (.getfield 13, 3) := by decide +kernel
theorem dX5_go_56 : decode cX5_go 56 = .ok (.iconst 2, 1) := by decide +kernel
theorem dX5_go_57 : decode cX5_go 57 = .ok (.aload_n 0, 1) := by decide +kernel
theorem dX5_go_58 : decode cX5_go 58 = .ok (.getfield 74, 3) := by decide +kernel
theorem dX5_go_61 : decode cX5_go 61 = .ok (.imul, 1) := by decide +kernel
theorem dX5_go_62 : decode cX5_go 62 = .ok (.iload_n 1, 1) := by decide +kernel
theorem dX5_go_63 : decode cX5_go 63 = .ok (.invokestatic 77, 3) := by decide +kernel
theorem dX5_go_66 : decode cX5_go 66 = .ok (.iastore, 1) := by decide +kernel
theorem dX5_go_67 : decode cX5_go 67 = .ok (.iload_n 1, 1) := by decide +kernel
theorem dX5_go_68 : decode cX5_go 68 = .ok (.invokestatic 77, 3) := by decide +kernel
theorem dX5_go_71 : decode cX5_go 71 = .ok (.iconst (-1), 1) := by decide +kernel
theorem dX5_go_72 : decode cX5_go 72 = .ok (.if_icmp .eq 7, 3) := by decide +kernel
theorem dX5_go_75 : decode cX5_go 75 = .ok (.iconst 1, 1) := by decide +kernel
theorem dX5_go_76 : decode cX5_go 76 = .ok (.goto 4, 3) := by decide +kernel
theorem dX5_go_79 : decode cX5_go 79 = .ok (.iconst 0, 1) := by decide +kernel
theorem dX5_go_80 : decode cX5_go 80 = .ok (.ireturn, 1) := by decide +kernel
theorem dX5_go_81 : decode cX5_go 81 = .ok (.aload_n 0, 1) := by decide +kernel
theorem dX5_go_82 : decode cX5_go 82 = .ok (.getfield 13, 3) := by decide +kernel
theorem dX5_go_85 : decode cX5_go 85 = .ok (.iconst 2, 1) := by decide +kernel
theorem dX5_go_86 : decode cX5_go 86 = .ok (.aload_n 0, 1) := by decide +kernel
theorem dX5_go_87 : decode cX5_go 87 = .ok (.getfield 74, 3) := by decide +kernel
theorem dX5_go_90 : decode cX5_go 90 = .ok (.imul, 1) := by decide +kernel
theorem dX5_go_91 : decode cX5_go 91 = .ok (.iconst 1, 1) := by decide +kernel
theorem dX5_go_92 : decode cX5_go 92 = .ok (.iadd, 1) := by decide +kernel
theorem dX5_go_93 : decode cX5_go 93 = .ok (.iload_n 2, 1) := by decide +kernel
theorem dX5_go_94 : decode cX5_go 94 = .ok (.iastore, 1) := by decide +kernel
theorem dX5_go_95 : decode cX5_go 95 = .ok (.aload_n 0, 1) := by decide +kernel
theorem dX5_go_96 : decode cX5_go 96 = .ok (.dup, 1) := by decide +kernel
theorem dX5_go_97 : decode cX5_go 97 = .ok (.getfield 74, 3) := by decide +kernel
theorem dX5_go_100 : decode cX5_go 100 = .ok (.iconst 1, 1) := by decide +kernel
theorem dX5_go_101 : decode cX5_go 101 = .ok (.iadd, 1) := by decide +kernel
theorem dX5_go_102 : decode cX5_go 102 = .ok (.putfield 74, 3) := by decide +kernel
theorem dX5_go_105 : decode cX5_go 105 = .ok (.iload_n 2, 1) := by decide +kernel
theorem dX5_go_106 : decode cX5_go 106 = .ok (.i2l, 1) := by decide +kernel
theorem dX5_go_107 : decode cX5_go 107 = .ok (.lconst 0, 1) := by decide +kernel
theorem dX5_go_108 : decode cX5_go 108 = .ok (.lconst 1, 1) := by decide +kernel
theorem dX5_go_109 : decode cX5_go 109 = .ok (.invokestatic 64, 3) := by decide +kernel
theorem dX5_go_112 : decode cX5_go 112 = .ok (.ireturn, 1) := by decide +kernel
theorem dX5_go_113 : decode cX5_go 113 = .ok (.aload_n 0, 1) := by decide +kernel
theorem dX5_go_114 : decode cX5_go 114 = .ok (.iload_n 1, 1) := by decide +kernel
theorem dX5_go_115 : decode cX5_go 115 = .ok (.bipush 44, 2) := by decide +kernel
theorem dX5_go_117 : decode cX5_go 117 = .ok (.if_icmp .ne 7, 3) := by decide +kernel
theorem dX5_go_120 : decode cX5_go 120 = .ok (.iconst 0, 1) := by decide +kernel
theorem dX5_go_121 : decode cX5_go 121 = .ok (.goto 4, 3) := by decide +kernel
theorem dX5_go_124 : decode cX5_go 124 = .ok (.iconst 3, 1) := by decide +kernel
theorem dX5_go_125 : decode cX5_go 125 = .ok (.putfield 71, 3) := by decide +kernel
theorem dX5_go_128 : decode cX5_go 128 = .ok (.iload_n 1, 1) := by decide +kernel
theorem dX5_go_129 : decode cX5_go 129 = .ok (.bipush 44, 2) := by decide +kernel
theorem dX5_go_131 : decode cX5_go 131 = .ok (.if_icmp .ne 19, 3) := by decide +kernel
theorem dX5_go_134 : decode cX5_go 134 = .ok (.aload_n 0, 1) := by decide +kernel
theorem dX5_go_135 : decode cX5_go 135 = .ok (.getfield 74, 3) := by decide +kernel
theorem dX5_go_138 : decode cX5_go 138 = .ok (.iconst 5, 1) := by decide +kernel
theorem dX5_go_139 : decode cX5_go 139 = .ok (.if_icmp .ge 7, 3) := by decide +kernel
theorem dX5_go_142 : decode cX5_go 142 = .ok (.iconst 1, 1) := by decide +kernel
theorem dX5_go_143 : decode cX5_go 143 = .ok (.goto 26, 3) := by decide +kernel
theorem dX5_go_146 : decode cX5_go 146 = .ok (.iconst 0, 1) := by decide +kernel
theorem dX5_go_147 : decode cX5_go 147 = .ok (.goto 22, 3) := by decide +kernel
theorem dX5_go_150 : decode cX5_go 150 = .ok (.iload_n 1, 1) := by decide +kernel
theorem dX5_go_151 : decode cX5_go 151 = .ok (.bipush 59, 2) := by decide +kernel
theorem dX5_go_153 : decode cX5_go 153 = .ok (.if_icmp .ne 15, 3) := by decide +kernel
theorem dX5_go_156 : decode cX5_go 156 = .ok (.aload_n 0, 1) := by decide +kernel
theorem dX5_go_157 : decode cX5_go 157 = .ok (.getfield 74, 3) := by decide +kernel
theorem dX5_go_160 : decode cX5_go 160 = .ok (.iconst 1, 1) := by decide +kernel
theorem dX5_go_161 : decode cX5_go 161 = .ok (.if_icmp .le 7, 3) := by decide +kernel
theorem dX5_go_164 : decode cX5_go 164 = .ok (.iconst 1, 1) := by decide +kernel
theorem dX5_go_165 : decode cX5_go 165 = .ok (.goto 4, 3) := by decide +kernel
theorem dX5_go_168 : decode cX5_go 168 = .ok (.iconst 0, 1) := by decide +kernel
theorem dX5_go_169 : decode cX5_go 169 = .ok (.ireturn, 1) := by decide +kernel
theorem dX5_go_170 : decode cX5_go 170 = .ok (.aload_n 0, 1) := by decide +kernel
theorem dX5_go_171 : decode cX5_go 171 = .ok (.iload_n 2, 1) := by decide +kernel
theorem dX5_go_172 : decode cX5_go 172 = .ok (.putfield 81, 3) := by decide +kernel
theorem dX5_go_175 : decode cX5_go 175 = .ok (.iload_n 2, 1) := by decide +kernel
theorem dX5_go_176 : decode cX5_go 176 = .ok (.i2l, 1) := by decide +kernel
theorem dX5_go_177 : decode cX5_go 177 = .ok (.lconst 1, 1) := by decide +kernel
theorem dX5_go_178 : decode cX5_go 178 = .ok (.ldc2_w 84, 3) := by decide +kernel
theorem dX5_go_181 : decode cX5_go 181 = .ok (.invokestatic 64, 3) := by decide +kernel
theorem dX5_go_184 : decode cX5_go 184 = .ok (.ireturn, 1) := by decide +kernel
theorem dX5_go_185 : decode cX5_go 185 = .ok (.iconst 0, 1) := by decide +kernel
theorem dX5_go_186 : decode cX5_go 186 = .ok (.ireturn, 1) := by decide +kernel
set_option maxRecDepth 20000 in
theorem ggX5_faultOf_X5_go : GoodIn wsX5_faultOf wsX5_go := goodIn_r _ [9, 2, 10, 1, 11, 12, 13, 14, 8, 15, 16, 17, 18, 19, 20, 21, 22, 23, 24, 25, 26, 27, 28, 29, 30, 31, 32, 33, 34, 35, 36, 37, 38, 39, 40, 41, 42, 43, 44, 45, 46, 47, 48, 49, 50, 51, 52, 53] (by decide +kernel) (by decide +kernel)
set_option maxRecDepth 20000 in
theorem gX5_faultOf_X5_go : GoodIn wsX5_faultOf (wsV RX5 86 RX5 yX5_go wsX5_go) := goodIn_app (goodIn_of _ (by decide +kernel)) ggX5_faultOf_X5_go
theorem dX5_faultOf_0 : decode cX5_faultOf 0 = .ok (.aload_n 0, 1) := by decide +kernel
theorem dX5_faultOf_1 : decode cX5_faultOf 1 = .ok (.iconst 0, 1) := by decide +kernel
theorem dX5_faultOf_2 : decode cX5_faultOf 2 = .ok (.putfield 74, 3) := by decide +kernel
theorem dX5_faultOf_5 : decode cX5_faultOf 5 = .ok (.aload_n 0, 1) := by decide +kernel
theorem dX5_faultOf_6 : decode cX5_faultOf 6 = .ok (.iconst 0, 1) := by decide +kernel
theorem dX5_faultOf_7 : decode cX5_faultOf 7 = .ok (.putfield 71, 3) := by decide +kernel
theorem dX5_faultOf_10 : decode cX5_faultOf 10 = .ok (.iconst 0, 1) := by decide +kernel
theorem dX5_faultOf_11 : decode cX5_faultOf 11 = .ok (.istore_n 1, 1) := by decide +kernel
theorem dX5_faultOf_12 : decode cX5_faultOf 12 = .ok (.iload_n 1, 1) := by decide +kernel
theorem dX5_faultOf_13 : decode cX5_faultOf 13 = .ok (.aload_n 0, 1) := by decide +kernel
theorem dX5_faultOf_14 : decode cX5_faultOf 14 = .ok (.getfield 68, 3) := by decide +kernel
theorem dX5_faultOf_17 : decode cX5_faultOf 17 = .ok (.if_icmp .ge 22, 3) := by decide +kernel
theorem dX5_faultOf_20 : decode cX5_faultOf 20 = .ok (.aload_n 0, 1) := by decide +kernel
theorem dX5_faultOf_21 : decode cX5_faultOf 21 = .ok (.aload_n 0, 1) := by decide +kernel
theorem dX5_faultOf_22 : decode cX5_faultOf 22 = .ok (.getfield 7, 3) := by decide +kernel
theorem dX5_faultOf_25 : decode cX5_faultOf 25 = .ok (.iload_n 1, 1) := by decide +kernel
theorem dX5_faultOf_26 : decode cX5_faultOf 26 = .ok (.iaload, 1) := by decide +kernel
theorem dX5_faultOf_27 : decode cX5_faultOf 27 = .ok (.invokevirtual 86, 3) := by decide +kernel
theorem dX5_faultOf_30 : decode cX5_faultOf 30 = .ok (.ifCond .eq 9, 3) := by decide +kernel
theorem dX5_faultOf_33 : decode cX5_faultOf 33 = .ok (.iinc 1 1, 3) := by decide +kernel
theorem dX5_faultOf_36 : decode cX5_faultOf 36 = .ok (.goto (-24), 3) := by decide +kernel
theorem dX5_faultOf_39 : decode cX5_faultOf 39 = .ok (.iload_n 1, 1) := by decide +kernel
theorem dX5_faultOf_40 : decode cX5_faultOf 40 = .ok (.ireturn, 1) := by decide +kernel
set_option maxRecDepth 20000 in
theorem ggX5_fault_X5_faultOf : GoodIn wsX5_fault wsX5_faultOf := goodIn_r _ [5, 6, 7, 8, 9, 10, 11, 12, 4, 13, 14, 15, 16, 17, 18, 19, 20, 21, 22, 23, 24, 25, 26, 27, 28, 29, 30, 31, 32, 33, 34, 35, 36, 37, 38, 39, 40, 41, 42, 43, 44, 45, 46, 47, 48, 49, 50, 51, 52, 53, 54, 55, 56, 57] (by decide +kernel) (by decide +kernel)
set_option maxRecDepth 20000 in
theorem gX5_fault_X5_faultOf : GoodIn wsX5_fault (wsV RX5 90 RX5 yX5_faultOf wsX5_faultOf) := goodIn_app (goodIn_of _ (by decide +kernel)) ggX5_fault_X5_faultOf
theorem dX5_fault_0 : decode cX5_fault 0 = .ok (.aload_n 0, 1) := by decide +kernel
theorem dX5_fault_1 : decode cX5_fault 1 = .ok (.invokevirtual 90, 3) := by decide +kernel
theorem dX5_fault_4 : decode cX5_fault 4 = .ok (.ireturn, 1) := by decide +kernel
set_option maxRecDepth 20000 in
theorem ggX5_court_X5_faultOf : GoodIn wsX5_court wsX5_faultOf := goodIn_r _ [22, 3, 2, 1, 23, 24, 25, 26, 21, 27, 8, 5, 28, 29, 30, 31, 32, 33, 34, 35, 36, 37, 38, 39, 40, 41, 42, 43, 44, 45, 46, 47, 48, 49, 50, 51, 52, 53, 54, 55, 56, 57, 58, 59, 60, 61, 62, 63, 64, 65, 66, 67, 68, 69] (by decide +kernel) (by decide +kernel)
set_option maxRecDepth 20000 in
theorem gX5_court_X5_faultOf : GoodIn wsX5_court (wsV RX5 90 RX5 yX5_faultOf wsX5_faultOf) := goodIn_app (goodIn_of _ (by decide +kernel)) ggX5_court_X5_faultOf
theorem dX5_court_0 : decode cX5_court 0 = .ok (.aload_n 0, 1) := by decide +kernel
theorem dX5_court_1 : decode cX5_court 1 = .ok (.invokevirtual 90, 3) := by decide +kernel
theorem dX5_court_4 : decode cX5_court 4 = .ok (.aload_n 0, 1) := by decide +kernel
theorem dX5_court_5 : decode cX5_court 5 = .ok (.getfield 68, 3) := by decide +kernel
theorem dX5_court_8 : decode cX5_court 8 = .ok (.if_icmp .lt 11, 3) := by decide +kernel
theorem dX5_court_11 : decode cX5_court 11 = .ok (.aload_n 0, 1) := by decide +kernel
theorem dX5_court_12 : decode cX5_court 12 = .ok (.getfield 71, 3) := by decide +kernel
theorem dX5_court_15 : decode cX5_court 15 = .ok (.iconst 4, 1) := by decide +kernel
theorem dX5_court_16 : decode cX5_court 16 = .ok (.if_icmp .eq 6, 3) := by decide +kernel
theorem dX5_court_19 : decode cX5_court 19 = .ok (.bipush (-103), 2) := by decide +kernel
theorem dX5_court_21 : decode cX5_court 21 = .ok (.ireturn, 1) := by decide +kernel
theorem dX5_court_22 : decode cX5_court 22 = .ok (.aload_n 0, 1) := by decide +kernel
theorem dX5_court_23 : decode cX5_court 23 = .ok (.aload_n 0, 1) := by decide +kernel
theorem dX5_court_24 : decode cX5_court 24 = .ok (.getfield 74, 3) := by decide +kernel
theorem dX5_court_27 : decode cX5_court 27 = .ok (.putfield 94, 3) := by decide +kernel
theorem dX5_court_30 : decode cX5_court 30 = .ok (.aload_n 0, 1) := by decide +kernel
theorem dX5_court_31 : decode cX5_court 31 = .ok (.aload_n 0, 1) := by decide +kernel
theorem dX5_court_32 : decode cX5_court 32 = .ok (.getfield 81, 3) := by decide +kernel
theorem dX5_court_35 : decode cX5_court 35 = .ok (.putfield 97, 3) := by decide +kernel
theorem dX5_court_38 : decode cX5_court 38 = .ok (.iconst 0, 1) := by decide +kernel
theorem dX5_court_39 : decode cX5_court 39 = .ok (.istore_n 1, 1) := by decide +kernel
theorem dX5_court_40 : decode cX5_court 40 = .ok (.iload_n 1, 1) := by decide +kernel
theorem dX5_court_41 : decode cX5_court 41 = .ok (.aload_n 0, 1) := by decide +kernel
theorem dX5_court_42 : decode cX5_court 42 = .ok (.getfield 94, 3) := by decide +kernel
theorem dX5_court_45 : decode cX5_court 45 = .ok (.if_icmp .ge 56, 3) := by decide +kernel
theorem dX5_court_48 : decode cX5_court 48 = .ok (.aload_n 0, 1) := by decide +kernel
theorem dX5_court_49 : decode cX5_court 49 = .ok (.getfield 16, 3) := by decide +kernel
theorem dX5_court_52 : decode cX5_court 52 = .ok (.iconst 3, 1) := by decide +kernel
theorem dX5_court_53 : decode cX5_court 53 = .ok (.iload_n 1, 1) := by decide +kernel
theorem dX5_court_54 : decode cX5_court 54 = .ok (.imul, 1) := by decide +kernel
theorem dX5_court_55 : decode cX5_court 55 = .ok (.aload_n 0, 1) := by decide +kernel
theorem dX5_court_56 : decode cX5_court 56 = .ok (.getfield 13, 3) := by decide +kernel
theorem dX5_court_59 : decode cX5_court 59 = .ok (.iconst 2, 1) := by decide +kernel
theorem dX5_court_60 : decode cX5_court 60 = .ok (.iload_n 1, 1) := by decide +kernel
theorem dX5_court_61 : decode cX5_court 61 = .ok (.imul, 1) := by decide +kernel
theorem dX5_court_62 : decode cX5_court 62 = .ok (.iaload, 1) := by decide +kernel
theorem dX5_court_63 : decode cX5_court 63 = .ok (.iastore, 1) := by decide +kernel
theorem dX5_court_64 : decode cX5_court 64 = .ok (.aload_n 0, 1) := by decide +kernel
theorem dX5_court_65 : decode cX5_court 65 = .ok (.getfield 16, 3) := by decide +kernel
theorem dX5_court_68 : decode cX5_court 68 = .ok (.iconst 3, 1) := by decide +kernel
theorem dX5_court_69 : decode cX5_court 69 = .ok (.iload_n 1, 1) := by decide +kernel
theorem dX5_court_70 : decode cX5_court 70 = .ok (.imul, 1) := by decide +kernel
theorem dX5_court_71 : decode cX5_court 71 = .ok (.iconst 1, 1) := by decide +kernel
theorem dX5_court_72 : decode cX5_court 72 = .ok (.iadd, 1) := by decide +kernel
theorem dX5_court_73 : decode cX5_court 73 = .ok (.aload_n 0, 1) := by decide +kernel
theorem dX5_court_74 : decode cX5_court 74 = .ok (.getfield 13, 3) := by decide +kernel
theorem dX5_court_77 : decode cX5_court 77 = .ok (.iconst 2, 1) := by decide +kernel
theorem dX5_court_78 : decode cX5_court 78 = .ok (.iload_n 1, 1) := by decide +kernel
theorem dX5_court_79 : decode cX5_court 79 = .ok (.imul, 1) := by decide +kernel
theorem dX5_court_80 : decode cX5_court 80 = .ok (.iconst 1, 1) := by decide +kernel
theorem dX5_court_81 : decode cX5_court 81 = .ok (.iadd, 1) := by decide +kernel
theorem dX5_court_82 : decode cX5_court 82 = .ok (.iaload, 1) := by decide +kernel
theorem dX5_court_83 : decode cX5_court 83 = .ok (.iastore, 1) := by decide +kernel
theorem dX5_court_84 : decode cX5_court 84 = .ok (.aload_n 0, 1) := by decide +kernel
theorem dX5_court_85 : decode cX5_court 85 = .ok (.getfield 16, 3) := by decide +kernel
theorem dX5_court_88 : decode cX5_court 88 = .ok (.iconst 3, 1) := by decide +kernel
theorem dX5_court_89 : decode cX5_court 89 = .ok (.iload_n 1, 1) := by decide +kernel
theorem dX5_court_90 : decode cX5_court 90 = .ok (.imul, 1) := by decide +kernel
theorem dX5_court_91 : decode cX5_court 91 = .ok (.iconst 2, 1) := by decide +kernel
theorem dX5_court_92 : decode cX5_court 92 = .ok (.iadd, 1) := by decide +kernel
theorem dX5_court_93 : decode cX5_court 93 = .ok (.iconst 0, 1) := by decide +kernel
theorem dX5_court_94 : decode cX5_court 94 = .ok (.iastore, 1) := by decide +kernel
theorem dX5_court_95 : decode cX5_court 95 = .ok (.iinc 1 1, 3) := by decide +kernel
theorem dX5_court_98 : decode cX5_court 98 = .ok (.goto (-58), 3) := by decide +kernel
theorem dX5_court_101 : decode cX5_court 101 = .ok (.aload_n 0, 1) := by decide +kernel
theorem dX5_court_102 : decode cX5_court 102 = .ok (.bipush 63, 2) := by decide +kernel
theorem dX5_court_104 : decode cX5_court 104 = .ok (.putfield 59, 3) := by decide +kernel
theorem dX5_court_107 : decode cX5_court 107 = .ok (.aload_n 0, 1) := by decide +kernel
theorem dX5_court_108 : decode cX5_court 108 = .ok (.iconst 0, 1) := by decide +kernel
theorem dX5_court_109 : decode cX5_court 109 = .ok (.putfield 100, 3) := by decide +kernel
theorem dX5_court_112 : decode cX5_court 112 = .ok (.aload_n 0, 1) := by decide +kernel
theorem dX5_court_113 : decode cX5_court 113 = .ok (.iconst 0, 1) := by decide +kernel
theorem dX5_court_114 : decode cX5_court 114 = .ok (.putfield 103, 3) := by decide +kernel
theorem dX5_court_117 : decode cX5_court 117 = .ok (.aload_n 0, 1) := by decide +kernel
theorem dX5_court_118 : decode cX5_court 118 = .ok (.iconst 0, 1) := by decide +kernel
theorem dX5_court_119 : decode cX5_court 119 = .ok (.putfield 106, 3) := by decide +kernel
theorem dX5_court_122 : decode cX5_court 122 = .ok (.aload_n 0, 1) := by decide +kernel
theorem dX5_court_123 : decode cX5_court 123 = .ok (.iconst 0, 1) := by decide +kernel
theorem dX5_court_124 : decode cX5_court 124 = .ok (.putfield 109, 3) := by decide +kernel
theorem dX5_court_127 : decode cX5_court 127 = .ok (.aload_n 0, 1) := by decide +kernel
theorem dX5_court_128 : decode cX5_court 128 = .ok (.iconst 0, 1) := by decide +kernel
theorem dX5_court_129 : decode cX5_court 129 = .ok (.putfield 112, 3) := by decide +kernel
theorem dX5_court_132 : decode cX5_court 132 = .ok (.aload_n 0, 1) := by decide +kernel
theorem dX5_court_133 : decode cX5_court 133 = .ok (.iconst 0, 1) := by decide +kernel
theorem dX5_court_134 : decode cX5_court 134 = .ok (.putfield 115, 3) := by decide +kernel
theorem dX5_court_137 : decode cX5_court 137 = .ok (.aload_n 0, 1) := by decide +kernel
theorem dX5_court_138 : decode cX5_court 138 = .ok (.iconst 0, 1) := by decide +kernel
theorem dX5_court_139 : decode cX5_court 139 = .ok (.putfield 118, 3) := by decide +kernel
theorem dX5_court_142 : decode cX5_court 142 = .ok (.aload_n 0, 1) := by decide +kernel
theorem dX5_court_143 : decode cX5_court 143 = .ok (.dup, 1) := by decide +kernel
theorem dX5_court_144 : decode cX5_court 144 = .ok (.getfield 121, 3) := by decide +kernel
theorem dX5_court_147 : decode cX5_court 147 = .ok (.iconst 1, 1) := by decide +kernel
theorem dX5_court_148 : decode cX5_court 148 = .ok (.iadd, 1) := by decide +kernel
theorem dX5_court_149 : decode cX5_court 149 = .ok (.putfield 121, 3) := by decide +kernel
theorem dX5_court_152 : decode cX5_court 152 = .ok (.aload_n 0, 1) := by decide +kernel
theorem dX5_court_153 : decode cX5_court 153 = .ok (.iconst 0, 1) := by decide +kernel
theorem dX5_court_154 : decode cX5_court 154 = .ok (.putfield 68, 3) := by decide +kernel
theorem dX5_court_157 : decode cX5_court 157 = .ok (.aload_n 0, 1) := by decide +kernel
theorem dX5_court_158 : decode cX5_court 158 = .ok (.getfield 94, 3) := by decide +kernel
theorem dX5_court_161 : decode cX5_court 161 = .ok (.ireturn, 1) := by decide +kernel
theorem dX5_lacks_0 : decode cX5_lacks 0 = .ok (.aload_n 0, 1) := by decide +kernel
theorem dX5_lacks_1 : decode cX5_lacks 1 = .ok (.getfield 94, 3) := by decide +kernel
theorem dX5_lacks_4 : decode cX5_lacks 4 = .ok (.ifCond .ne 7, 3) := by decide +kernel
theorem dX5_lacks_7 : decode cX5_lacks 7 = .ok (.iconst 1, 1) := by decide +kernel
theorem dX5_lacks_8 : decode cX5_lacks 8 = .ok (.goto 4, 3) := by decide +kernel
theorem dX5_lacks_11 : decode cX5_lacks 11 = .ok (.iconst 0, 1) := by decide +kernel
theorem dX5_lacks_12 : decode cX5_lacks 12 = .ok (.ireturn, 1) := by decide +kernel
set_option maxRecDepth 20000 in
theorem ggX5_isSeat_X5_in : GoodIn wsX5_isSeat wsX5_in := goodIn_r _ [5] (by decide +kernel) (by decide +kernel)
set_option maxRecDepth 20000 in
theorem gX5_isSeat_X5_in : GoodIn wsX5_isSeat (va_wsS RX5 64 yX5_in wsX5_in) := goodIn_app (goodIn_of _ (by decide +kernel)) ggX5_isSeat_X5_in
theorem dX5_isSeat_0 : decode cX5_isSeat 0 = .ok (.iload_n 1, 1) := by decide +kernel
theorem dX5_isSeat_1 : decode cX5_isSeat 1 = .ok (.i2l, 1) := by decide +kernel
theorem dX5_isSeat_2 : decode cX5_isSeat 2 = .ok (.lconst 0, 1) := by decide +kernel
theorem dX5_isSeat_3 : decode cX5_isSeat 3 = .ok (.aload_n 0, 1) := by decide +kernel
theorem dX5_isSeat_4 : decode cX5_isSeat 4 = .ok (.getfield 94, 3) := by decide +kernel
theorem dX5_isSeat_7 : decode cX5_isSeat 7 = .ok (.iconst 1, 1) := by decide +kernel
theorem dX5_isSeat_8 : decode cX5_isSeat 8 = .ok (.isub, 1) := by decide +kernel
theorem dX5_isSeat_9 : decode cX5_isSeat 9 = .ok (.i2l, 1) := by decide +kernel
theorem dX5_isSeat_10 : decode cX5_isSeat 10 = .ok (.invokestatic 64, 3) := by decide +kernel
theorem dX5_isSeat_13 : decode cX5_isSeat 13 = .ok (.ireturn, 1) := by decide +kernel
theorem dX5_counts_0 : decode cX5_counts 0 = .ok (.iload_n 2, 1) := by decide +kernel
theorem dX5_counts_1 : decode cX5_counts 1 = .ok (.bipush 8, 2) := by decide +kernel
theorem dX5_counts_3 : decode cX5_counts 3 = .ok (.idiv, 1) := by decide +kernel
theorem dX5_counts_4 : decode cX5_counts 4 = .ok (.istore_n 3, 1) := by decide +kernel
theorem dX5_counts_5 : decode cX5_counts 5 = .ok (.aload_n 0, 1) := by decide +kernel
theorem dX5_counts_6 : decode cX5_counts 6 = .ok (.getfield 16, 3) := by decide +kernel
theorem dX5_counts_9 : decode cX5_counts 9 = .ok (.iconst 3, 1) := by decide +kernel
theorem dX5_counts_10 : decode cX5_counts 10 = .ok (.iload_n 1, 1) := by decide +kernel
theorem dX5_counts_11 : decode cX5_counts 11 = .ok (.imul, 1) := by decide +kernel
theorem dX5_counts_12 : decode cX5_counts 12 = .ok (.iaload, 1) := by decide +kernel
theorem dX5_counts_13 : decode cX5_counts 13 = .ok (.istore 4, 2) := by decide +kernel
theorem dX5_counts_15 : decode cX5_counts 15 = .ok (.iload_n 3, 1) := by decide +kernel
theorem dX5_counts_16 : decode cX5_counts 16 = .ok (.iconst 5, 1) := by decide +kernel
theorem dX5_counts_17 : decode cX5_counts 17 = .ok (.if_icmp .ge 21, 3) := by decide +kernel
theorem dX5_counts_20 : decode cX5_counts 20 = .ok (.iload_n 3, 1) := by decide +kernel
theorem dX5_counts_21 : decode cX5_counts 21 = .ok (.iload_n 1, 1) := by decide +kernel
theorem dX5_counts_22 : decode cX5_counts 22 = .ok (.iconst 1, 1) := by decide +kernel
theorem dX5_counts_23 : decode cX5_counts 23 = .ok (.isub, 1) := by decide +kernel
theorem dX5_counts_24 : decode cX5_counts 24 = .ok (.if_icmp .eq 10, 3) := by decide +kernel
theorem dX5_counts_27 : decode cX5_counts 27 = .ok (.iload_n 3, 1) := by decide +kernel
theorem dX5_counts_28 : decode cX5_counts 28 = .ok (.iload_n 1, 1) := by decide +kernel
theorem dX5_counts_29 : decode cX5_counts 29 = .ok (.iconst 1, 1) := by decide +kernel
theorem dX5_counts_30 : decode cX5_counts 30 = .ok (.iadd, 1) := by decide +kernel
theorem dX5_counts_31 : decode cX5_counts 31 = .ok (.if_icmp .ne 7, 3) := by decide +kernel
theorem dX5_counts_34 : decode cX5_counts 34 = .ok (.iconst 1, 1) := by decide +kernel
theorem dX5_counts_35 : decode cX5_counts 35 = .ok (.goto 4, 3) := by decide +kernel
theorem dX5_counts_38 : decode cX5_counts 38 = .ok (.iconst 0, 1) := by decide +kernel
theorem dX5_counts_39 : decode cX5_counts 39 = .ok (.istore 5, 2) := by decide +kernel
theorem dX5_counts_41 : decode cX5_counts 41 = .ok (.aload_n 0, 1) := by decide +kernel
theorem dX5_counts_42 : decode cX5_counts 42 = .ok (.getfield 100, 3) := by decide +kernel
theorem dX5_counts_45 : decode cX5_counts 45 = .ok (.iload_n 1, 1) := by decide +kernel
theorem dX5_counts_46 : decode cX5_counts 46 = .ok (.ishr, 1) := by decide +kernel
theorem dX5_counts_47 : decode cX5_counts 47 = .ok (.iconst 1, 1) := by decide +kernel
theorem dX5_counts_48 : decode cX5_counts 48 = .ok (.iand, 1) := by decide +kernel
theorem dX5_counts_49 : decode cX5_counts 49 = .ok (.ifCond .ne 24, 3) := by decide +kernel
theorem dX5_counts_52 : decode cX5_counts 52 = .ok (.iload 4, 2) := by decide +kernel
theorem dX5_counts_54 : decode cX5_counts 54 = .ok (.iconst 4, 1) := by decide +kernel
theorem dX5_counts_55 : decode cX5_counts 55 = .ok (.if_icmp .eq 18, 3) := by decide +kernel
theorem dX5_counts_58 : decode cX5_counts 58 = .ok (.iload 4, 2) := by decide +kernel
theorem dX5_counts_60 : decode cX5_counts 60 = .ok (.iconst 1, 1) := by decide +kernel
theorem dX5_counts_61 : decode cX5_counts 61 = .ok (.if_icmp .ne 8, 3) := by decide +kernel
theorem dX5_counts_64 : decode cX5_counts 64 = .ok (.iload 5, 2) := by decide +kernel
theorem dX5_counts_66 : decode cX5_counts 66 = .ok (.ifCond .eq 7, 3) := by decide +kernel
theorem dX5_counts_69 : decode cX5_counts 69 = .ok (.iconst 1, 1) := by decide +kernel
theorem dX5_counts_70 : decode cX5_counts 70 = .ok (.goto 4, 3) := by decide +kernel
theorem dX5_counts_73 : decode cX5_counts 73 = .ok (.iconst 0, 1) := by decide +kernel
theorem dX5_counts_74 : decode cX5_counts 74 = .ok (.ireturn, 1) := by decide +kernel
theorem dX5_behind_0 : decode cX5_behind 0 = .ok (.iload_n 2, 1) := by decide +kernel
theorem dX5_behind_1 : decode cX5_behind 1 = .ok (.bipush 8, 2) := by decide +kernel
theorem dX5_behind_3 : decode cX5_behind 3 = .ok (.idiv, 1) := by decide +kernel
theorem dX5_behind_4 : decode cX5_behind 4 = .ok (.istore_n 3, 1) := by decide +kernel
theorem dX5_behind_5 : decode cX5_behind 5 = .ok (.iload_n 3, 1) := by decide +kernel
theorem dX5_behind_6 : decode cX5_behind 6 = .ok (.iload_n 1, 1) := by decide +kernel
theorem dX5_behind_7 : decode cX5_behind 7 = .ok (.if_icmp .ne 5, 3) := by decide +kernel
theorem dX5_behind_10 : decode cX5_behind 10 = .ok (.iload_n 2, 1) := by decide +kernel
theorem dX5_behind_11 : decode cX5_behind 11 = .ok (.ireturn, 1) := by decide +kernel
theorem dX5_behind_12 : decode cX5_behind 12 = .ok (.aload_n 0, 1) := by decide +kernel
theorem dX5_behind_13 : decode cX5_behind 13 = .ok (.getfield 16, 3) := by decide +kernel
theorem dX5_behind_16 : decode cX5_behind 16 = .ok (.iconst 3, 1) := by decide +kernel
theorem dX5_behind_17 : decode cX5_behind 17 = .ok (.iload_n 1, 1) := by decide +kernel
theorem dX5_behind_18 : decode cX5_behind 18 = .ok (.imul, 1) := by decide +kernel
theorem dX5_behind_19 : decode cX5_behind 19 = .ok (.iaload, 1) := by decide +kernel
theorem dX5_behind_20 : decode cX5_behind 20 = .ok (.istore 4, 2) := by decide +kernel
theorem dX5_behind_22 : decode cX5_behind 22 = .ok (.iload 4, 2) := by decide +kernel
theorem dX5_behind_24 : decode cX5_behind 24 = .ok (.iconst 2, 1) := by decide +kernel
theorem dX5_behind_25 : decode cX5_behind 25 = .ok (.if_icmp .ne 6, 3) := by decide +kernel
theorem dX5_behind_28 : decode cX5_behind 28 = .ok (.bipush 47, 2) := by decide +kernel
theorem dX5_behind_30 : decode cX5_behind 30 = .ok (.ireturn, 1) := by decide +kernel
theorem dX5_behind_31 : decode cX5_behind 31 = .ok (.iload_n 1, 1) := by decide +kernel
theorem dX5_behind_32 : decode cX5_behind 32 = .ok (.ifCond .ne 12, 3) := by decide +kernel
theorem dX5_behind_35 : decode cX5_behind 35 = .ok (.aload_n 0, 1) := by decide +kernel
theorem dX5_behind_36 : decode cX5_behind 36 = .ok (.getfield 94, 3) := by decide +kernel
theorem dX5_behind_39 : decode cX5_behind 39 = .ok (.iconst 1, 1) := by decide +kernel
theorem dX5_behind_40 : decode cX5_behind 40 = .ok (.isub, 1) := by decide +kernel
theorem dX5_behind_41 : decode cX5_behind 41 = .ok (.goto 6, 3) := by decide +kernel
theorem dX5_behind_44 : decode cX5_behind 44 = .ok (.iload_n 1, 1) := by decide +kernel
theorem dX5_behind_45 : decode cX5_behind 45 = .ok (.iconst 1, 1) := by decide +kernel
theorem dX5_behind_46 : decode cX5_behind 46 = .ok (.isub, 1) := by decide +kernel
theorem dX5_behind_47 : decode cX5_behind 47 = .ok (.istore 5, 2) := by decide +kernel
theorem dX5_behind_49 : decode cX5_behind 49 = .ok (.iload_n 3, 1) := by decide +kernel
theorem dX5_behind_50 : decode cX5_behind 50 = .ok (.bipush 7, 2) := by decide +kernel
theorem dX5_behind_52 : decode cX5_behind 52 = .ok (.if_icmp .ne 8, 3) := by decide +kernel
theorem dX5_behind_55 : decode cX5_behind 55 = .ok (.bipush 7, 2) := by decide +kernel
theorem dX5_behind_57 : decode cX5_behind 57 = .ok (.goto 15, 3) := by decide +kernel
theorem dX5_behind_60 : decode cX5_behind 60 = .ok (.iload 4, 2) := by decide +kernel
theorem dX5_behind_62 : decode cX5_behind 62 = .ok (.iconst 3, 1) := by decide +kernel
theorem dX5_behind_63 : decode cX5_behind 63 = .ok (.if_icmp .ne 8, 3) := by decide +kernel
theorem dX5_behind_66 : decode cX5_behind 66 = .ok (.iload 5, 2) := by decide +kernel
theorem dX5_behind_68 : decode cX5_behind 68 = .ok (.goto 4, 3) := by decide +kernel
theorem dX5_behind_71 : decode cX5_behind 71 = .ok (.iload_n 1, 1) := by decide +kernel
theorem dX5_behind_72 : decode cX5_behind 72 = .ok (.istore 6, 2) := by decide +kernel
theorem dX5_behind_74 : decode cX5_behind 74 = .ok (.bipush 8, 2) := by decide +kernel
theorem dX5_behind_76 : decode cX5_behind 76 = .ok (.iload_n 1, 1) := by decide +kernel
theorem dX5_behind_77 : decode cX5_behind 77 = .ok (.imul, 1) := by decide +kernel
theorem dX5_behind_78 : decode cX5_behind 78 = .ok (.iload 6, 2) := by decide +kernel
theorem dX5_behind_80 : decode cX5_behind 80 = .ok (.iadd, 1) := by decide +kernel
theorem dX5_behind_81 : decode cX5_behind 81 = .ok (.ireturn, 1) := by decide +kernel
theorem dX5_ones_0 : decode cX5_ones 0 = .ok (.iconst 0, 1) := by decide +kernel
theorem dX5_ones_1 : decode cX5_ones 1 = .ok (.istore_n 1, 1) := by decide +kernel
theorem dX5_ones_2 : decode cX5_ones 2 = .ok (.iconst 0, 1) := by decide +kernel
theorem dX5_ones_3 : decode cX5_ones 3 = .ok (.istore_n 2, 1) := by decide +kernel
theorem dX5_ones_4 : decode cX5_ones 4 = .ok (.iload_n 2, 1) := by decide +kernel
theorem dX5_ones_5 : decode cX5_ones 5 = .ok (.bipush 8, 2) := by decide +kernel
theorem dX5_ones_7 : decode cX5_ones 7 = .ok (.if_icmp .ge 17, 3) := by decide +kernel
theorem dX5_ones_10 : decode cX5_ones 10 = .ok (.iload_n 1, 1) := by decide +kernel
theorem dX5_ones_11 : decode cX5_ones 11 = .ok (.iload_n 0, 1) := by decide +kernel
theorem dX5_ones_12 : decode cX5_ones 12 = .ok (.iload_n 2, 1) := by decide +kernel
theorem dX5_ones_13 : decode cX5_ones 13 = .ok (.ishr, 1) := by decide +kernel
theorem dX5_ones_14 : decode cX5_ones 14 = .ok (.iconst 1, 1) := by decide +kernel
theorem dX5_ones_15 : decode cX5_ones 15 = .ok (.iand, 1) := by decide +kernel
theorem dX5_ones_16 : decode cX5_ones 16 = .ok (.iadd, 1) := by decide +kernel
theorem dX5_ones_17 : decode cX5_ones 17 = .ok (.istore_n 1, 1) := by decide +kernel
theorem dX5_ones_18 : decode cX5_ones 18 = .ok (.iinc 2 1, 3) := by decide +kernel
theorem dX5_ones_21 : decode cX5_ones 21 = .ok (.goto (-17), 3) := by decide +kernel
theorem dX5_ones_24 : decode cX5_ones 24 = .ok (.iload_n 1, 1) := by decide +kernel
theorem dX5_ones_25 : decode cX5_ones 25 = .ok (.ireturn, 1) := by decide +kernel
set_option maxRecDepth 20000 in
theorem ggX5_counting_X5_counts : GoodIn wsX5_counting wsX5_counts := goodIn_r _ [7, 8, 9, 10, 11, 12, 13, 14, 15, 16, 17, 18, 19, 20, 21, 22, 23, 24, 25, 26, 27, 28, 29, 30, 31, 32, 33, 34, 35, 36, 37, 38, 39, 40, 41, 42, 43, 44] (by decide +kernel) (by decide +kernel)
set_option maxRecDepth 20000 in
theorem gX5_counting_X5_counts : GoodIn wsX5_counting (wsV RX5 124 RX5 yX5_counts wsX5_counts) := goodIn_app (goodIn_of _ (by decide +kernel)) ggX5_counting_X5_counts
theorem dX5_counting_0 : decode cX5_counting 0 = .ok (.iconst 0, 1) := by decide +kernel
theorem dX5_counting_1 : decode cX5_counting 1 = .ok (.istore_n 2, 1) := by decide +kernel
theorem dX5_counting_2 : decode cX5_counting 2 = .ok (.iconst 0, 1) := by decide +kernel
theorem dX5_counting_3 : decode cX5_counting 3 = .ok (.istore_n 3, 1) := by decide +kernel
theorem dX5_counting_4 : decode cX5_counting 4 = .ok (.iload_n 3, 1) := by decide +kernel
theorem dX5_counting_5 : decode cX5_counting 5 = .ok (.aload_n 0, 1) := by decide +kernel
theorem dX5_counting_6 : decode cX5_counting 6 = .ok (.getfield 94, 3) := by decide +kernel
theorem dX5_counting_9 : decode cX5_counting 9 = .ok (.if_icmp .ge 40, 3) := by decide +kernel
theorem dX5_counting_12 : decode cX5_counting 12 = .ok (.iload_n 2, 1) := by decide +kernel
theorem dX5_counting_13 : decode cX5_counting 13 = .ok (.iload_n 1, 1) := by decide +kernel
theorem dX5_counting_14 : decode cX5_counting 14 = .ok (.iload_n 3, 1) := by decide +kernel
theorem dX5_counting_15 : decode cX5_counting 15 = .ok (.ishr, 1) := by decide +kernel
theorem dX5_counting_16 : decode cX5_counting 16 = .ok (.iconst 1, 1) := by decide +kernel
theorem dX5_counting_17 : decode cX5_counting 17 = .ok (.iand, 1) := by decide +kernel
theorem dX5_counting_18 : decode cX5_counting 18 = .ok (.iconst 1, 1) := by decide +kernel
theorem dX5_counting_19 : decode cX5_counting 19 = .ok (.if_icmp .ne 21, 3) := by decide +kernel
theorem dX5_counting_22 : decode cX5_counting 22 = .ok (.aload_n 0, 1) := by decide +kernel
theorem dX5_counting_23 : decode cX5_counting 23 = .ok (.iload_n 3, 1) := by decide +kernel
theorem dX5_counting_24 : decode cX5_counting 24 = .ok (.aload_n 0, 1) := by decide +kernel
theorem dX5_counting_25 : decode cX5_counting 25 = .ok (.getfield 59, 3) := by decide +kernel
theorem dX5_counting_28 : decode cX5_counting 28 = .ok (.invokevirtual 124, 3) := by decide +kernel
theorem dX5_counting_31 : decode cX5_counting 31 = .ok (.ifCond .eq 9, 3) := by decide +kernel
theorem dX5_counting_34 : decode cX5_counting 34 = .ok (.iconst 1, 1) := by decide +kernel
theorem dX5_counting_35 : decode cX5_counting 35 = .ok (.iload_n 3, 1) := by decide +kernel
theorem dX5_counting_36 : decode cX5_counting 36 = .ok (.ishl, 1) := by decide +kernel
theorem dX5_counting_37 : decode cX5_counting 37 = .ok (.goto 4, 3) := by decide +kernel
theorem dX5_counting_40 : decode cX5_counting 40 = .ok (.iconst 0, 1) := by decide +kernel
theorem dX5_counting_41 : decode cX5_counting 41 = .ok (.ior, 1) := by decide +kernel
theorem dX5_counting_42 : decode cX5_counting 42 = .ok (.istore_n 2, 1) := by decide +kernel
theorem dX5_counting_43 : decode cX5_counting 43 = .ok (.iinc 3 1, 3) := by decide +kernel
theorem dX5_counting_46 : decode cX5_counting 46 = .ok (.goto (-42), 3) := by decide +kernel
theorem dX5_counting_49 : decode cX5_counting 49 = .ok (.iload_n 2, 1) := by decide +kernel
theorem dX5_counting_50 : decode cX5_counting 50 = .ok (.ireturn, 1) := by decide +kernel
theorem dX5_ends_0 : decode cX5_ends 0 = .ok (.aload_n 0, 1) := by decide +kernel
theorem dX5_ends_1 : decode cX5_ends 1 = .ok (.getfield 59, 3) := by decide +kernel
theorem dX5_ends_4 : decode cX5_ends 4 = .ok (.bipush 8, 2) := by decide +kernel
theorem dX5_ends_6 : decode cX5_ends 6 = .ok (.irem, 1) := by decide +kernel
theorem dX5_ends_7 : decode cX5_ends 7 = .ok (.istore_n 1, 1) := by decide +kernel
theorem dX5_ends_8 : decode cX5_ends 8 = .ok (.aload_n 0, 1) := by decide +kernel
theorem dX5_ends_9 : decode cX5_ends 9 = .ok (.dup, 1) := by decide +kernel
theorem dX5_ends_10 : decode cX5_ends 10 = .ok (.getfield 106, 3) := by decide +kernel
theorem dX5_ends_13 : decode cX5_ends 13 = .ok (.iconst 1, 1) := by decide +kernel
theorem dX5_ends_14 : decode cX5_ends 14 = .ok (.iadd, 1) := by decide +kernel
theorem dX5_ends_15 : decode cX5_ends 15 = .ok (.putfield 106, 3) := by decide +kernel
theorem dX5_ends_18 : decode cX5_ends 18 = .ok (.aload_n 0, 1) := by decide +kernel
theorem dX5_ends_19 : decode cX5_ends 19 = .ok (.dup, 1) := by decide +kernel
theorem dX5_ends_20 : decode cX5_ends 20 = .ok (.getfield 109, 3) := by decide +kernel
theorem dX5_ends_23 : decode cX5_ends 23 = .ok (.iload_n 1, 1) := by decide +kernel
theorem dX5_ends_24 : decode cX5_ends 24 = .ok (.bipush 7, 2) := by decide +kernel
theorem dX5_ends_26 : decode cX5_ends 26 = .ok (.if_icmp .eq 20, 3) := by decide +kernel
theorem dX5_ends_29 : decode cX5_ends 29 = .ok (.aload_n 0, 1) := by decide +kernel
theorem dX5_ends_30 : decode cX5_ends 30 = .ok (.getfield 16, 3) := by decide +kernel
theorem dX5_ends_33 : decode cX5_ends 33 = .ok (.iconst 3, 1) := by decide +kernel
theorem dX5_ends_34 : decode cX5_ends 34 = .ok (.iload_n 1, 1) := by decide +kernel
theorem dX5_ends_35 : decode cX5_ends 35 = .ok (.imul, 1) := by decide +kernel
theorem dX5_ends_36 : decode cX5_ends 36 = .ok (.iconst 1, 1) := by decide +kernel
theorem dX5_ends_37 : decode cX5_ends 37 = .ok (.iadd, 1) := by decide +kernel
theorem dX5_ends_38 : decode cX5_ends 38 = .ok (.iaload, 1) := by decide +kernel
theorem dX5_ends_39 : decode cX5_ends 39 = .ok (.ifCond .ne 7, 3) := by decide +kernel
theorem dX5_ends_42 : decode cX5_ends 42 = .ok (.iconst 1, 1) := by decide +kernel
theorem dX5_ends_43 : decode cX5_ends 43 = .ok (.goto 4, 3) := by decide +kernel
theorem dX5_ends_46 : decode cX5_ends 46 = .ok (.iconst 0, 1) := by decide +kernel
theorem dX5_ends_47 : decode cX5_ends 47 = .ok (.iadd, 1) := by decide +kernel
theorem dX5_ends_48 : decode cX5_ends 48 = .ok (.putfield 109, 3) := by decide +kernel
theorem dX5_ends_51 : decode cX5_ends 51 = .ok (.aload_n 0, 1) := by decide +kernel
theorem dX5_ends_52 : decode cX5_ends 52 = .ok (.dup, 1) := by decide +kernel
theorem dX5_ends_53 : decode cX5_ends 53 = .ok (.getfield 112, 3) := by decide +kernel
theorem dX5_ends_56 : decode cX5_ends 56 = .ok (.iload_n 1, 1) := by decide +kernel
theorem dX5_ends_57 : decode cX5_ends 57 = .ok (.bipush 7, 2) := by decide +kernel
theorem dX5_ends_59 : decode cX5_ends 59 = .ok (.if_icmp .eq 21, 3) := by decide +kernel
theorem dX5_ends_62 : decode cX5_ends 62 = .ok (.aload_n 0, 1) := by decide +kernel
theorem dX5_ends_63 : decode cX5_ends 63 = .ok (.getfield 16, 3) := by decide +kernel
theorem dX5_ends_66 : decode cX5_ends 66 = .ok (.iconst 3, 1) := by decide +kernel
theorem dX5_ends_67 : decode cX5_ends 67 = .ok (.iload_n 1, 1) := by decide +kernel
theorem dX5_ends_68 : decode cX5_ends 68 = .ok (.imul, 1) := by decide +kernel
theorem dX5_ends_69 : decode cX5_ends 69 = .ok (.iconst 1, 1) := by decide +kernel
theorem dX5_ends_70 : decode cX5_ends 70 = .ok (.iadd, 1) := by decide +kernel
theorem dX5_ends_71 : decode cX5_ends 71 = .ok (.iaload, 1) := by decide +kernel
theorem dX5_ends_72 : decode cX5_ends 72 = .ok (.iconst 1, 1) := by decide +kernel
theorem dX5_ends_73 : decode cX5_ends 73 = .ok (.if_icmp .ne 7, 3) := by decide +kernel
theorem dX5_ends_76 : decode cX5_ends 76 = .ok (.iconst 1, 1) := by decide +kernel
theorem dX5_ends_77 : decode cX5_ends 77 = .ok (.goto 4, 3) := by decide +kernel
theorem dX5_ends_80 : decode cX5_ends 80 = .ok (.iconst 0, 1) := by decide +kernel
theorem dX5_ends_81 : decode cX5_ends 81 = .ok (.iadd, 1) := by decide +kernel
theorem dX5_ends_82 : decode cX5_ends 82 = .ok (.putfield 112, 3) := by decide +kernel
theorem dX5_ends_85 : decode cX5_ends 85 = .ok (.aload_n 0, 1) := by decide +kernel
theorem dX5_ends_86 : decode cX5_ends 86 = .ok (.bipush 63, 2) := by decide +kernel
theorem dX5_ends_88 : decode cX5_ends 88 = .ok (.putfield 59, 3) := by decide +kernel
theorem dX5_ends_91 : decode cX5_ends 91 = .ok (.aload_n 0, 1) := by decide +kernel
theorem dX5_ends_92 : decode cX5_ends 92 = .ok (.iconst 0, 1) := by decide +kernel
theorem dX5_ends_93 : decode cX5_ends 93 = .ok (.putfield 100, 3) := by decide +kernel
theorem dX5_ends_96 : decode cX5_ends 96 = .ok (.aload_n 0, 1) := by decide +kernel
theorem dX5_ends_97 : decode cX5_ends 97 = .ok (.iconst 0, 1) := by decide +kernel
theorem dX5_ends_98 : decode cX5_ends 98 = .ok (.putfield 103, 3) := by decide +kernel
theorem dX5_ends_101 : decode cX5_ends 101 = .ok (.return_, 1) := by decide +kernel
set_option maxRecDepth 20000 in
theorem ggX5_goesBy_X5_counting : GoodIn wsX5_goesBy wsX5_counting := goodIn_r _ [12, 3, 4, 13, 14, 15, 11, 16, 5, 6, 31, 32, 33, 34, 35, 36, 37, 38, 39, 40, 41, 42, 43, 44, 45, 46, 47, 48, 49, 50, 51, 52, 53, 54, 55, 56, 57, 58, 59, 60, 61, 62, 63, 64, 65] (by decide +kernel) (by decide +kernel)
set_option maxRecDepth 20000 in
theorem gX5_goesBy_X5_counting : GoodIn wsX5_goesBy (wsV RX5 128 RX5 yX5_counting wsX5_counting) := goodIn_app (goodIn_of _ (by decide +kernel)) ggX5_goesBy_X5_counting
set_option maxRecDepth 20000 in
theorem ggX5_goesBy_X5_ones : GoodIn wsX5_goesBy wsX5_ones := goodIn_r _ [19] (by decide +kernel) (by decide +kernel)
set_option maxRecDepth 20000 in
theorem gX5_goesBy_X5_ones : GoodIn wsX5_goesBy (va_wsS RX5 131 yX5_ones wsX5_ones) := goodIn_app (goodIn_of _ (by decide +kernel)) ggX5_goesBy_X5_ones
set_option maxRecDepth 20000 in
theorem ggX5_goesBy_X5_behind : GoodIn wsX5_goesBy wsX5_behind := goodIn_r _ [23, 5, 3, 31, 32, 33, 34, 35, 36, 37, 38, 39, 40, 41, 42, 43, 44, 45, 46, 47, 48, 49, 50, 51, 52, 53, 54, 55, 56, 57, 58, 59, 60, 61, 62, 63, 64, 65] (by decide +kernel) (by decide +kernel)
set_option maxRecDepth 20000 in
theorem gX5_goesBy_X5_behind : GoodIn wsX5_goesBy (wsV RX5 134 RX5 yX5_behind wsX5_behind) := goodIn_app (goodIn_of _ (by decide +kernel)) ggX5_goesBy_X5_behind
set_option maxRecDepth 20000 in
theorem ggX5_goesBy_X5_ends : GoodIn wsX5_goesBy wsX5_ends := goodIn_r _ [27, 4, 28, 29, 5, 30, 6, 2, 31, 32, 33, 34, 35, 36, 37, 38, 39, 40, 41, 42, 43, 44, 45, 46, 47, 48, 49, 50, 51, 52, 53, 54, 55, 56, 57, 58, 59, 60, 61, 62, 63, 64, 65] (by decide +kernel) (by decide +kernel)
set_option maxRecDepth 20000 in
theorem gX5_goesBy_X5_ends : GoodIn wsX5_goesBy (wsV RX5 138 RX5 yX5_ends wsX5_ends) := goodIn_app (goodIn_of _ (by decide +kernel)) ggX5_goesBy_X5_ends
theorem dX5_goesBy_0 : decode cX5_goesBy 0 = .ok (.aload_n 0, 1) := by decide +kernel
theorem dX5_goesBy_1 : decode cX5_goesBy 1 = .ok (.iload_n 1, 1) := by decide +kernel
theorem dX5_goesBy_2 : decode cX5_goesBy 2 = .ok (.invokevirtual 128, 3) := by decide +kernel
theorem dX5_goesBy_5 : decode cX5_goesBy 5 = .ok (.istore_n 2, 1) := by decide +kernel
theorem dX5_goesBy_6 : decode cX5_goesBy 6 = .ok (.iload_n 2, 1) := by decide +kernel
theorem dX5_goesBy_7 : decode cX5_goesBy 7 = .ok (.invokestatic 131, 3) := by decide +kernel
theorem dX5_goesBy_10 : decode cX5_goesBy 10 = .ok (.istore_n 3, 1) := by decide +kernel
theorem dX5_goesBy_11 : decode cX5_goesBy 11 = .ok (.aload_n 0, 1) := by decide +kernel
theorem dX5_goesBy_12 : decode cX5_goesBy 12 = .ok (.dup, 1) := by decide +kernel
theorem dX5_goesBy_13 : decode cX5_goesBy 13 = .ok (.getfield 115, 3) := by decide +kernel
theorem dX5_goesBy_16 : decode cX5_goesBy 16 = .ok (.iconst 1, 1) := by decide +kernel
theorem dX5_goesBy_17 : decode cX5_goesBy 17 = .ok (.iadd, 1) := by decide +kernel
theorem dX5_goesBy_18 : decode cX5_goesBy 18 = .ok (.putfield 115, 3) := by decide +kernel
theorem dX5_goesBy_21 : decode cX5_goesBy 21 = .ok (.aload_n 0, 1) := by decide +kernel
theorem dX5_goesBy_22 : decode cX5_goesBy 22 = .ok (.iload_n 3, 1) := by decide +kernel
theorem dX5_goesBy_23 : decode cX5_goesBy 23 = .ok (.ifCond .ne 12, 3) := by decide +kernel
theorem dX5_goesBy_26 : decode cX5_goesBy 26 = .ok (.aload_n 0, 1) := by decide +kernel
theorem dX5_goesBy_27 : decode cX5_goesBy 27 = .ok (.getfield 103, 3) := by decide +kernel
theorem dX5_goesBy_30 : decode cX5_goesBy 30 = .ok (.iconst 1, 1) := by decide +kernel
theorem dX5_goesBy_31 : decode cX5_goesBy 31 = .ok (.iadd, 1) := by decide +kernel
theorem dX5_goesBy_32 : decode cX5_goesBy 32 = .ok (.goto 4, 3) := by decide +kernel
theorem dX5_goesBy_35 : decode cX5_goesBy 35 = .ok (.iconst 0, 1) := by decide +kernel
theorem dX5_goesBy_36 : decode cX5_goesBy 36 = .ok (.putfield 103, 3) := by decide +kernel
theorem dX5_goesBy_39 : decode cX5_goesBy 39 = .ok (.iload_n 3, 1) := by decide +kernel
theorem dX5_goesBy_40 : decode cX5_goesBy 40 = .ok (.iconst 1, 1) := by decide +kernel
theorem dX5_goesBy_41 : decode cX5_goesBy 41 = .ok (.if_icmp .ne 58, 3) := by decide +kernel
theorem dX5_goesBy_44 : decode cX5_goesBy 44 = .ok (.iconst 0, 1) := by decide +kernel
theorem dX5_goesBy_45 : decode cX5_goesBy 45 = .ok (.istore 4, 2) := by decide +kernel
theorem dX5_goesBy_47 : decode cX5_goesBy 47 = .ok (.iload 4, 2) := by decide +kernel
theorem dX5_goesBy_49 : decode cX5_goesBy 49 = .ok (.aload_n 0, 1) := by decide +kernel
theorem dX5_goesBy_50 : decode cX5_goesBy 50 = .ok (.getfield 94, 3) := by decide +kernel
theorem dX5_goesBy_53 : decode cX5_goesBy 53 = .ok (.if_icmp .ge 46, 3) := by decide +kernel
theorem dX5_goesBy_56 : decode cX5_goesBy 56 = .ok (.iload_n 2, 1) := by decide +kernel
theorem dX5_goesBy_57 : decode cX5_goesBy 57 = .ok (.iconst 1, 1) := by decide +kernel
theorem dX5_goesBy_58 : decode cX5_goesBy 58 = .ok (.iload 4, 2) := by decide +kernel
theorem dX5_goesBy_60 : decode cX5_goesBy 60 = .ok (.ishl, 1) := by decide +kernel
theorem dX5_goesBy_61 : decode cX5_goesBy 61 = .ok (.if_icmp .ne 32, 3) := by decide +kernel
theorem dX5_goesBy_64 : decode cX5_goesBy 64 = .ok (.aload_n 0, 1) := by decide +kernel
theorem dX5_goesBy_65 : decode cX5_goesBy 65 = .ok (.aload_n 0, 1) := by decide +kernel
theorem dX5_goesBy_66 : decode cX5_goesBy 66 = .ok (.iload 4, 2) := by decide +kernel
theorem dX5_goesBy_68 : decode cX5_goesBy 68 = .ok (.aload_n 0, 1) := by decide +kernel
theorem dX5_goesBy_69 : decode cX5_goesBy 69 = .ok (.getfield 59, 3) := by decide +kernel
theorem dX5_goesBy_72 : decode cX5_goesBy 72 = .ok (.invokevirtual 134, 3) := by decide +kernel
theorem dX5_goesBy_75 : decode cX5_goesBy 75 = .ok (.putfield 59, 3) := by decide +kernel
theorem dX5_goesBy_78 : decode cX5_goesBy 78 = .ok (.aload_n 0, 1) := by decide +kernel
theorem dX5_goesBy_79 : decode cX5_goesBy 79 = .ok (.getfield 16, 3) := by decide +kernel
theorem dX5_goesBy_82 : decode cX5_goesBy 82 = .ok (.iconst 3, 1) := by decide +kernel
theorem dX5_goesBy_83 : decode cX5_goesBy 83 = .ok (.iload 4, 2) := by decide +kernel
theorem dX5_goesBy_85 : decode cX5_goesBy 85 = .ok (.imul, 1) := by decide +kernel
theorem dX5_goesBy_86 : decode cX5_goesBy 86 = .ok (.iconst 2, 1) := by decide +kernel
theorem dX5_goesBy_87 : decode cX5_goesBy 87 = .ok (.iadd, 1) := by decide +kernel
theorem dX5_goesBy_88 : decode cX5_goesBy 88 = .ok (.dup2, 1) := by decide +kernel
theorem dX5_goesBy_89 : decode cX5_goesBy 89 = .ok (.iaload, 1) := by decide +kernel
theorem dX5_goesBy_90 : decode cX5_goesBy 90 = .ok (.iconst 1, 1) := by decide +kernel
theorem dX5_goesBy_91 : decode cX5_goesBy 91 = .ok (.iadd, 1) := by decide +kernel
theorem dX5_goesBy_92 : decode cX5_goesBy 92 = .ok (.iastore, 1) := by decide +kernel
theorem dX5_goesBy_93 : decode cX5_goesBy 93 = .ok (.iinc 4 1, 3) := by decide +kernel
theorem dX5_goesBy_96 : decode cX5_goesBy 96 = .ok (.goto (-49), 3) := by decide +kernel
theorem dX5_goesBy_99 : decode cX5_goesBy 99 = .ok (.aload_n 0, 1) := by decide +kernel
theorem dX5_goesBy_100 : decode cX5_goesBy 100 = .ok (.dup, 1) := by decide +kernel
theorem dX5_goesBy_101 : decode cX5_goesBy 101 = .ok (.getfield 100, 3) := by decide +kernel
theorem dX5_goesBy_104 : decode cX5_goesBy 104 = .ok (.iload_n 3, 1) := by decide +kernel
theorem dX5_goesBy_105 : decode cX5_goesBy 105 = .ok (.iconst 1, 1) := by decide +kernel
theorem dX5_goesBy_106 : decode cX5_goesBy 106 = .ok (.if_icmp .le 7, 3) := by decide +kernel
theorem dX5_goesBy_109 : decode cX5_goesBy 109 = .ok (.iload_n 2, 1) := by decide +kernel
theorem dX5_goesBy_110 : decode cX5_goesBy 110 = .ok (.goto 4, 3) := by decide +kernel
theorem dX5_goesBy_113 : decode cX5_goesBy 113 = .ok (.iconst 0, 1) := by decide +kernel
theorem dX5_goesBy_114 : decode cX5_goesBy 114 = .ok (.ior, 1) := by decide +kernel
theorem dX5_goesBy_115 : decode cX5_goesBy 115 = .ok (.putfield 100, 3) := by decide +kernel
theorem dX5_goesBy_118 : decode cX5_goesBy 118 = .ok (.aload_n 0, 1) := by decide +kernel
theorem dX5_goesBy_119 : decode cX5_goesBy 119 = .ok (.getfield 103, 3) := by decide +kernel
theorem dX5_goesBy_122 : decode cX5_goesBy 122 = .ok (.aload_n 0, 1) := by decide +kernel
theorem dX5_goesBy_123 : decode cX5_goesBy 123 = .ok (.getfield 97, 3) := by decide +kernel
theorem dX5_goesBy_126 : decode cX5_goesBy 126 = .ok (.if_icmp .ne 7, 3) := by decide +kernel
theorem dX5_goesBy_129 : decode cX5_goesBy 129 = .ok (.aload_n 0, 1) := by decide +kernel
theorem dX5_goesBy_130 : decode cX5_goesBy 130 = .ok (.invokevirtual 138, 3) := by decide +kernel
theorem dX5_goesBy_133 : decode cX5_goesBy 133 = .ok (.iload_n 3, 1) := by decide +kernel
theorem dX5_goesBy_134 : decode cX5_goesBy 134 = .ok (.ireturn, 1) := by decide +kernel
set_option maxRecDepth 20000 in
theorem ggX5_breath_X5_in : GoodIn wsX5_breath wsX5_in := goodIn_r _ [5] (by decide +kernel) (by decide +kernel)
set_option maxRecDepth 20000 in
theorem gX5_breath_X5_in : GoodIn wsX5_breath (va_wsS RX5 64 yX5_in wsX5_in) := goodIn_app (goodIn_of _ (by decide +kernel)) ggX5_breath_X5_in
set_option maxRecDepth 20000 in
theorem ggX5_breath_X5_lacks : GoodIn wsX5_breath wsX5_lacks := goodIn_r _ [9, 1, 42, 43, 44, 45, 46, 47, 48, 49, 50, 51, 52, 53, 54, 55, 56, 57, 58, 59, 60, 61, 62, 63, 64, 65, 66, 67, 68, 69, 70, 71, 72, 73, 74, 75, 76] (by decide +kernel) (by decide +kernel)
set_option maxRecDepth 20000 in
theorem gX5_breath_X5_lacks : GoodIn wsX5_breath (wsV RX5 141 RX5 yX5_lacks wsX5_lacks) := goodIn_app (goodIn_of _ (by decide +kernel)) ggX5_breath_X5_lacks
set_option maxRecDepth 20000 in
theorem ggX5_breath_X5_goesBy : GoodIn wsX5_breath wsX5_goesBy := goodIn_r _ [13, 14, 15, 1, 16, 17, 18, 19, 20, 21, 22, 4, 23, 24, 25, 26, 27, 28, 29, 30, 31, 32, 33, 34, 35, 36, 37, 38, 39, 40, 41, 42, 43, 44, 45, 46, 47, 48, 49, 50, 51, 52, 53, 54, 55, 56, 57, 58, 59, 60, 61, 62, 63, 64, 65, 66, 67, 68, 69, 70, 71, 72, 73, 74, 75, 76] (by decide +kernel) (by decide +kernel)
set_option maxRecDepth 20000 in
theorem gX5_breath_X5_goesBy : GoodIn wsX5_breath (wsV RX5 145 RX5 yX5_goesBy wsX5_goesBy) := goodIn_app (goodIn_of _ (by decide +kernel)) ggX5_breath_X5_goesBy
theorem dX5_breath_0 : decode cX5_breath 0 = .ok (.iload_n 1, 1) := by decide +kernel
theorem dX5_breath_1 : decode cX5_breath 1 = .ok (.i2l, 1) := by decide +kernel
theorem dX5_breath_2 : decode cX5_breath 2 = .ok (.lconst 0, 1) := by decide +kernel
theorem dX5_breath_3 : decode cX5_breath 3 = .ok (.iconst 1, 1) := by decide +kernel
theorem dX5_breath_4 : decode cX5_breath 4 = .ok (.aload_n 0, 1) := by decide +kernel
theorem dX5_breath_5 : decode cX5_breath 5 = .ok (.getfield 94, 3) := by decide +kernel
theorem dX5_breath_8 : decode cX5_breath 8 = .ok (.ishl, 1) := by decide +kernel
theorem dX5_breath_9 : decode cX5_breath 9 = .ok (.iconst 1, 1) := by decide +kernel
theorem dX5_breath_10 : decode cX5_breath 10 = .ok (.isub, 1) := by decide +kernel
theorem dX5_breath_11 : decode cX5_breath 11 = .ok (.i2l, 1) := by decide +kernel
theorem dX5_breath_12 : decode cX5_breath 12 = .ok (.invokestatic 64, 3) := by decide +kernel
theorem dX5_breath_15 : decode cX5_breath 15 = .ok (.ifCond .ne 6, 3) := by decide +kernel
theorem dX5_breath_18 : decode cX5_breath 18 = .ok (.bipush (-102), 2) := by decide +kernel
theorem dX5_breath_20 : decode cX5_breath 20 = .ok (.ireturn, 1) := by decide +kernel
theorem dX5_breath_21 : decode cX5_breath 21 = .ok (.aload_n 0, 1) := by decide +kernel
theorem dX5_breath_22 : decode cX5_breath 22 = .ok (.invokevirtual 141, 3) := by decide +kernel
theorem dX5_breath_25 : decode cX5_breath 25 = .ok (.ifCond .eq 8, 3) := by decide +kernel
theorem dX5_breath_28 : decode cX5_breath 28 = .ok (.bipush (-103), 2) := by decide +kernel
theorem dX5_breath_30 : decode cX5_breath 30 = .ok (.goto 8, 3) := by decide +kernel
theorem dX5_breath_33 : decode cX5_breath 33 = .ok (.aload_n 0, 1) := by decide +kernel
theorem dX5_breath_34 : decode cX5_breath 34 = .ok (.iload_n 1, 1) := by decide +kernel
theorem dX5_breath_35 : decode cX5_breath 35 = .ok (.invokevirtual 145, 3) := by decide +kernel
theorem dX5_breath_38 : decode cX5_breath 38 = .ok (.ireturn, 1) := by decide +kernel
set_option maxRecDepth 20000 in
theorem ggX5_layFar_X5_counts : GoodIn wsX5_layFar wsX5_counts := goodIn_r _ [7, 8, 9, 14, 15, 16, 17, 18, 19, 20, 21, 22, 23, 24, 25, 26, 27, 28, 29, 30, 31, 32, 33, 34, 35, 36, 37, 38, 39, 40, 41, 42, 43, 44, 45, 46, 47, 48] (by decide +kernel) (by decide +kernel)
set_option maxRecDepth 20000 in
theorem gX5_layFar_X5_counts : GoodIn wsX5_layFar (wsV RX5 124 RX5 yX5_counts wsX5_counts) := goodIn_app (goodIn_of _ (by decide +kernel)) ggX5_layFar_X5_counts
set_option maxRecDepth 20000 in
theorem ggX5_layFar_X5_behind : GoodIn wsX5_layFar wsX5_behind := goodIn_r _ [13, 8, 2, 14, 15, 16, 17, 18, 19, 20, 21, 22, 23, 24, 25, 26, 27, 28, 29, 30, 31, 32, 33, 34, 35, 36, 37, 38, 39, 40, 41, 42, 43, 44, 45, 46, 47, 48] (by decide +kernel) (by decide +kernel)
set_option maxRecDepth 20000 in
theorem gX5_layFar_X5_behind : GoodIn wsX5_layFar (wsV RX5 134 RX5 yX5_behind wsX5_behind) := goodIn_app (goodIn_of _ (by decide +kernel)) ggX5_layFar_X5_behind
theorem dX5_layFar_0 : decode cX5_layFar 0 = .ok (.iconst 0, 1) := by decide +kernel
theorem dX5_layFar_1 : decode cX5_layFar 1 = .ok (.istore_n 2, 1) := by decide +kernel
theorem dX5_layFar_2 : decode cX5_layFar 2 = .ok (.iload_n 2, 1) := by decide +kernel
theorem dX5_layFar_3 : decode cX5_layFar 3 = .ok (.bipush 64, 2) := by decide +kernel
theorem dX5_layFar_5 : decode cX5_layFar 5 = .ok (.if_icmp .ge 16, 3) := by decide +kernel
theorem dX5_layFar_8 : decode cX5_layFar 8 = .ok (.aload_n 0, 1) := by decide +kernel
theorem dX5_layFar_9 : decode cX5_layFar 9 = .ok (.getfield 19, 3) := by decide +kernel
theorem dX5_layFar_12 : decode cX5_layFar 12 = .ok (.iload_n 2, 1) := by decide +kernel
theorem dX5_layFar_13 : decode cX5_layFar 13 = .ok (.iconst (-1), 1) := by decide +kernel
theorem dX5_layFar_14 : decode cX5_layFar 14 = .ok (.iastore, 1) := by decide +kernel
theorem dX5_layFar_15 : decode cX5_layFar 15 = .ok (.iinc 2 1, 3) := by decide +kernel
theorem dX5_layFar_18 : decode cX5_layFar 18 = .ok (.goto (-16), 3) := by decide +kernel
theorem dX5_layFar_21 : decode cX5_layFar 21 = .ok (.aload_n 0, 1) := by decide +kernel
theorem dX5_layFar_22 : decode cX5_layFar 22 = .ok (.getfield 19, 3) := by decide +kernel
theorem dX5_layFar_25 : decode cX5_layFar 25 = .ok (.iload_n 1, 1) := by decide +kernel
theorem dX5_layFar_26 : decode cX5_layFar 26 = .ok (.iconst 0, 1) := by decide +kernel
theorem dX5_layFar_27 : decode cX5_layFar 27 = .ok (.iastore, 1) := by decide +kernel
theorem dX5_layFar_28 : decode cX5_layFar 28 = .ok (.iconst 0, 1) := by decide +kernel
theorem dX5_layFar_29 : decode cX5_layFar 29 = .ok (.istore_n 2, 1) := by decide +kernel
theorem dX5_layFar_30 : decode cX5_layFar 30 = .ok (.iload_n 2, 1) := by decide +kernel
theorem dX5_layFar_31 : decode cX5_layFar 31 = .ok (.bipush 64, 2) := by decide +kernel
theorem dX5_layFar_33 : decode cX5_layFar 33 = .ok (.if_icmp .ge 105, 3) := by decide +kernel
theorem dX5_layFar_36 : decode cX5_layFar 36 = .ok (.iconst 0, 1) := by decide +kernel
theorem dX5_layFar_37 : decode cX5_layFar 37 = .ok (.istore_n 3, 1) := by decide +kernel
theorem dX5_layFar_38 : decode cX5_layFar 38 = .ok (.iload_n 3, 1) := by decide +kernel
theorem dX5_layFar_39 : decode cX5_layFar 39 = .ok (.bipush 64, 2) := by decide +kernel
theorem dX5_layFar_41 : decode cX5_layFar 41 = .ok (.if_icmp .ge 91, 3) := by decide +kernel
theorem dX5_layFar_44 : decode cX5_layFar 44 = .ok (.iconst 0, 1) := by decide +kernel
theorem dX5_layFar_45 : decode cX5_layFar 45 = .ok (.istore 4, 2) := by decide +kernel
theorem dX5_layFar_47 : decode cX5_layFar 47 = .ok (.iload 4, 2) := by decide +kernel
theorem dX5_layFar_49 : decode cX5_layFar 49 = .ok (.aload_n 0, 1) := by decide +kernel
theorem dX5_layFar_50 : decode cX5_layFar 50 = .ok (.getfield 94, 3) := by decide +kernel
theorem dX5_layFar_53 : decode cX5_layFar 53 = .ok (.if_icmp .ge 73, 3) := by decide +kernel
theorem dX5_layFar_56 : decode cX5_layFar 56 = .ok (.aload_n 0, 1) := by decide +kernel
theorem dX5_layFar_57 : decode cX5_layFar 57 = .ok (.getfield 19, 3) := by decide +kernel
theorem dX5_layFar_60 : decode cX5_layFar 60 = .ok (.iload_n 3, 1) := by decide +kernel
theorem dX5_layFar_61 : decode cX5_layFar 61 = .ok (.iaload, 1) := by decide +kernel
theorem dX5_layFar_62 : decode cX5_layFar 62 = .ok (.iload_n 2, 1) := by decide +kernel
theorem dX5_layFar_63 : decode cX5_layFar 63 = .ok (.if_icmp .ne 63, 3) := by decide +kernel
theorem dX5_layFar_66 : decode cX5_layFar 66 = .ok (.aload_n 0, 1) := by decide +kernel
theorem dX5_layFar_67 : decode cX5_layFar 67 = .ok (.iload 4, 2) := by decide +kernel
theorem dX5_layFar_69 : decode cX5_layFar 69 = .ok (.iload_n 3, 1) := by decide +kernel
theorem dX5_layFar_70 : decode cX5_layFar 70 = .ok (.invokevirtual 124, 3) := by decide +kernel
theorem dX5_layFar_73 : decode cX5_layFar 73 = .ok (.ifCond .eq 13, 3) := by decide +kernel
theorem dX5_layFar_76 : decode cX5_layFar 76 = .ok (.aload_n 0, 1) := by decide +kernel
theorem dX5_layFar_77 : decode cX5_layFar 77 = .ok (.iload 4, 2) := by decide +kernel
theorem dX5_layFar_79 : decode cX5_layFar 79 = .ok (.iload_n 3, 1) := by decide +kernel
theorem dX5_layFar_80 : decode cX5_layFar 80 = .ok (.invokevirtual 134, 3) := by decide +kernel
theorem dX5_layFar_83 : decode cX5_layFar 83 = .ok (.goto 4, 3) := by decide +kernel
theorem dX5_layFar_86 : decode cX5_layFar 86 = .ok (.iload_n 3, 1) := by decide +kernel
theorem dX5_layFar_87 : decode cX5_layFar 87 = .ok (.istore 5, 2) := by decide +kernel
theorem dX5_layFar_89 : decode cX5_layFar 89 = .ok (.aload_n 0, 1) := by decide +kernel
theorem dX5_layFar_90 : decode cX5_layFar 90 = .ok (.getfield 19, 3) := by decide +kernel
theorem dX5_layFar_93 : decode cX5_layFar 93 = .ok (.iload 5, 2) := by decide +kernel
theorem dX5_layFar_95 : decode cX5_layFar 95 = .ok (.aload_n 0, 1) := by decide +kernel
theorem dX5_layFar_96 : decode cX5_layFar 96 = .ok (.getfield 19, 3) := by decide +kernel
theorem dX5_layFar_99 : decode cX5_layFar 99 = .ok (.iload 5, 2) := by decide +kernel
theorem dX5_layFar_101 : decode cX5_layFar 101 = .ok (.iaload, 1) := by decide +kernel
theorem dX5_layFar_102 : decode cX5_layFar 102 = .ok (.iconst (-1), 1) := by decide +kernel
theorem dX5_layFar_103 : decode cX5_layFar 103 = .ok (.if_icmp .ne 9, 3) := by decide +kernel
theorem dX5_layFar_106 : decode cX5_layFar 106 = .ok (.iload_n 2, 1) := by decide +kernel
theorem dX5_layFar_107 : decode cX5_layFar 107 = .ok (.iconst 1, 1) := by decide +kernel
theorem dX5_layFar_108 : decode cX5_layFar 108 = .ok (.iadd, 1) := by decide +kernel
theorem dX5_layFar_109 : decode cX5_layFar 109 = .ok (.goto 10, 3) := by decide +kernel
theorem dX5_layFar_112 : decode cX5_layFar 112 = .ok (.aload_n 0, 1) := by decide +kernel
theorem dX5_layFar_113 : decode cX5_layFar 113 = .ok (.getfield 19, 3) := by decide +kernel
theorem dX5_layFar_116 : decode cX5_layFar 116 = .ok (.iload 5, 2) := by decide +kernel
theorem dX5_layFar_118 : decode cX5_layFar 118 = .ok (.iaload, 1) := by decide +kernel
theorem dX5_layFar_119 : decode cX5_layFar 119 = .ok (.iastore, 1) := by decide +kernel
theorem dX5_layFar_120 : decode cX5_layFar 120 = .ok (.iinc 4 1, 3) := by decide +kernel
theorem dX5_layFar_123 : decode cX5_layFar 123 = .ok (.goto (-76), 3) := by decide +kernel
theorem dX5_layFar_126 : decode cX5_layFar 126 = .ok (.iinc 3 1, 3) := by decide +kernel
theorem dX5_layFar_129 : decode cX5_layFar 129 = .ok (.goto (-91), 3) := by decide +kernel
theorem dX5_layFar_132 : decode cX5_layFar 132 = .ok (.iinc 2 1, 3) := by decide +kernel
theorem dX5_layFar_135 : decode cX5_layFar 135 = .ok (.goto (-105), 3) := by decide +kernel
theorem dX5_layFar_138 : decode cX5_layFar 138 = .ok (.return_, 1) := by decide +kernel
set_option maxRecDepth 20000 in
theorem ggX5_fewFrom_X5_layFar : GoodIn wsX5_fewFrom wsX5_layFar := goodIn_r _ [6, 1, 7, 8, 9, 10, 5, 11, 12, 13, 14, 15, 16, 17, 18, 19, 20, 21, 22, 23, 24, 25, 26, 27, 28, 29, 30, 31, 32, 33, 34, 35, 36, 37, 38, 39, 40, 41, 42, 43, 44, 45, 46, 47, 48, 49, 50, 51, 52] (by decide +kernel) (by decide +kernel)
set_option maxRecDepth 20000 in
theorem gX5_fewFrom_X5_layFar : GoodIn wsX5_fewFrom (wsV RX5 148 RX5 yX5_layFar wsX5_layFar) := goodIn_app (goodIn_of _ (by decide +kernel)) ggX5_fewFrom_X5_layFar
theorem dX5_fewFrom_0 : decode cX5_fewFrom 0 = .ok (.aload_n 0, 1) := by decide +kernel
theorem dX5_fewFrom_1 : decode cX5_fewFrom 1 = .ok (.iload_n 1, 1) := by decide +kernel
theorem dX5_fewFrom_2 : decode cX5_fewFrom 2 = .ok (.invokevirtual 148, 3) := by decide +kernel
theorem dX5_fewFrom_5 : decode cX5_fewFrom 5 = .ok (.iconst (-1), 1) := by decide +kernel
theorem dX5_fewFrom_6 : decode cX5_fewFrom 6 = .ok (.istore_n 3, 1) := by decide +kernel
theorem dX5_fewFrom_7 : decode cX5_fewFrom 7 = .ok (.iconst 0, 1) := by decide +kernel
theorem dX5_fewFrom_8 : decode cX5_fewFrom 8 = .ok (.istore 4, 2) := by decide +kernel
theorem dX5_fewFrom_10 : decode cX5_fewFrom 10 = .ok (.iload 4, 2) := by decide +kernel
theorem dX5_fewFrom_12 : decode cX5_fewFrom 12 = .ok (.bipush 64, 2) := by decide +kernel
theorem dX5_fewFrom_14 : decode cX5_fewFrom 14 = .ok (.if_icmp .ge 57, 3) := by decide +kernel
theorem dX5_fewFrom_17 : decode cX5_fewFrom 17 = .ok (.iload 4, 2) := by decide +kernel
theorem dX5_fewFrom_19 : decode cX5_fewFrom 19 = .ok (.bipush 8, 2) := by decide +kernel
theorem dX5_fewFrom_21 : decode cX5_fewFrom 21 = .ok (.irem, 1) := by decide +kernel
theorem dX5_fewFrom_22 : decode cX5_fewFrom 22 = .ok (.iload_n 2, 1) := by decide +kernel
theorem dX5_fewFrom_23 : decode cX5_fewFrom 23 = .ok (.if_icmp .ne 40, 3) := by decide +kernel
theorem dX5_fewFrom_26 : decode cX5_fewFrom 26 = .ok (.aload_n 0, 1) := by decide +kernel
theorem dX5_fewFrom_27 : decode cX5_fewFrom 27 = .ok (.getfield 19, 3) := by decide +kernel
theorem dX5_fewFrom_30 : decode cX5_fewFrom 30 = .ok (.iload 4, 2) := by decide +kernel
theorem dX5_fewFrom_32 : decode cX5_fewFrom 32 = .ok (.iaload, 1) := by decide +kernel
theorem dX5_fewFrom_33 : decode cX5_fewFrom 33 = .ok (.iconst (-1), 1) := by decide +kernel
theorem dX5_fewFrom_34 : decode cX5_fewFrom 34 = .ok (.if_icmp .eq 29, 3) := by decide +kernel
theorem dX5_fewFrom_37 : decode cX5_fewFrom 37 = .ok (.iload_n 3, 1) := by decide +kernel
theorem dX5_fewFrom_38 : decode cX5_fewFrom 38 = .ok (.iconst (-1), 1) := by decide +kernel
theorem dX5_fewFrom_39 : decode cX5_fewFrom 39 = .ok (.if_icmp .eq 14, 3) := by decide +kernel
theorem dX5_fewFrom_42 : decode cX5_fewFrom 42 = .ok (.aload_n 0, 1) := by decide +kernel
theorem dX5_fewFrom_43 : decode cX5_fewFrom 43 = .ok (.getfield 19, 3) := by decide +kernel
theorem dX5_fewFrom_46 : decode cX5_fewFrom 46 = .ok (.iload 4, 2) := by decide +kernel
theorem dX5_fewFrom_48 : decode cX5_fewFrom 48 = .ok (.iaload, 1) := by decide +kernel
theorem dX5_fewFrom_49 : decode cX5_fewFrom 49 = .ok (.iload_n 3, 1) := by decide +kernel
theorem dX5_fewFrom_50 : decode cX5_fewFrom 50 = .ok (.if_icmp .ge 13, 3) := by decide +kernel
theorem dX5_fewFrom_53 : decode cX5_fewFrom 53 = .ok (.aload_n 0, 1) := by decide +kernel
theorem dX5_fewFrom_54 : decode cX5_fewFrom 54 = .ok (.getfield 19, 3) := by decide +kernel
theorem dX5_fewFrom_57 : decode cX5_fewFrom 57 = .ok (.iload 4, 2) := by decide +kernel
theorem dX5_fewFrom_59 : decode cX5_fewFrom 59 = .ok (.iaload, 1) := by decide +kernel
theorem dX5_fewFrom_60 : decode cX5_fewFrom 60 = .ok (.goto 4, 3) := by decide +kernel
theorem dX5_fewFrom_63 : decode cX5_fewFrom 63 = .ok (.iload_n 3, 1) := by decide +kernel
theorem dX5_fewFrom_64 : decode cX5_fewFrom 64 = .ok (.istore_n 3, 1) := by decide +kernel
theorem dX5_fewFrom_65 : decode cX5_fewFrom 65 = .ok (.iinc 4 1, 3) := by decide +kernel
theorem dX5_fewFrom_68 : decode cX5_fewFrom 68 = .ok (.goto (-58), 3) := by decide +kernel
theorem dX5_fewFrom_71 : decode cX5_fewFrom 71 = .ok (.iload_n 3, 1) := by decide +kernel
theorem dX5_fewFrom_72 : decode cX5_fewFrom 72 = .ok (.ireturn, 1) := by decide +kernel
set_option maxRecDepth 20000 in
theorem ggX5_firstOf_X5_fewFrom : GoodIn wsX5_firstOf wsX5_fewFrom := goodIn_r _ [7, 8, 9, 10, 11, 6, 12, 2, 13, 14, 15, 16, 17, 18, 19, 20, 21, 22, 23, 24, 25, 26, 27, 28, 29, 30, 31, 32, 33, 34, 35, 36, 37, 38, 39, 40, 41, 42, 43, 44, 45, 46, 47, 48, 49, 50, 51, 52, 53, 54, 55, 56, 57] (by decide +kernel) (by decide +kernel)
set_option maxRecDepth 20000 in
theorem gX5_firstOf_X5_fewFrom : GoodIn wsX5_firstOf (wsV RX5 152 RX5 yX5_fewFrom wsX5_fewFrom) := goodIn_app (goodIn_of _ (by decide +kernel)) ggX5_firstOf_X5_fewFrom
set_option maxRecDepth 20000 in
theorem ggX5_firstOf_X5_counts : GoodIn wsX5_firstOf wsX5_counts := goodIn_r _ [16, 17, 18, 23, 24, 25, 26, 27, 28, 29, 30, 31, 32, 33, 34, 35, 36, 37, 38, 39, 40, 41, 42, 43, 44, 45, 46, 47, 48, 49, 50, 51, 52, 53, 54, 55, 56, 57] (by decide +kernel) (by decide +kernel)
set_option maxRecDepth 20000 in
theorem gX5_firstOf_X5_counts : GoodIn wsX5_firstOf (wsV RX5 124 RX5 yX5_counts wsX5_counts) := goodIn_app (goodIn_of _ (by decide +kernel)) ggX5_firstOf_X5_counts
set_option maxRecDepth 20000 in
theorem ggX5_firstOf_X5_behind : GoodIn wsX5_firstOf wsX5_behind := goodIn_r _ [22, 17, 2, 23, 24, 25, 26, 27, 28, 29, 30, 31, 32, 33, 34, 35, 36, 37, 38, 39, 40, 41, 42, 43, 44, 45, 46, 47, 48, 49, 50, 51, 52, 53, 54, 55, 56, 57] (by decide +kernel) (by decide +kernel)
set_option maxRecDepth 20000 in
theorem gX5_firstOf_X5_behind : GoodIn wsX5_firstOf (wsV RX5 134 RX5 yX5_behind wsX5_behind) := goodIn_app (goodIn_of _ (by decide +kernel)) ggX5_firstOf_X5_behind
theorem dX5_firstOf_0 : decode cX5_firstOf 0 = .ok (.aload_n 0, 1) := by decide +kernel
theorem dX5_firstOf_1 : decode cX5_firstOf 1 = .ok (.aload_n 0, 1) := by decide +kernel
theorem dX5_firstOf_2 : decode cX5_firstOf 2 = .ok (.getfield 59, 3) := by decide +kernel
theorem dX5_firstOf_5 : decode cX5_firstOf 5 = .ok (.iload_n 1, 1) := by decide +kernel
theorem dX5_firstOf_6 : decode cX5_firstOf 6 = .ok (.invokevirtual 152, 3) := by decide +kernel
theorem dX5_firstOf_9 : decode cX5_firstOf 9 = .ok (.istore_n 2, 1) := by decide +kernel
theorem dX5_firstOf_10 : decode cX5_firstOf 10 = .ok (.iconst 0, 1) := by decide +kernel
theorem dX5_firstOf_11 : decode cX5_firstOf 11 = .ok (.istore_n 3, 1) := by decide +kernel
theorem dX5_firstOf_12 : decode cX5_firstOf 12 = .ok (.iload_n 3, 1) := by decide +kernel
theorem dX5_firstOf_13 : decode cX5_firstOf 13 = .ok (.aload_n 0, 1) := by decide +kernel
theorem dX5_firstOf_14 : decode cX5_firstOf 14 = .ok (.getfield 94, 3) := by decide +kernel
theorem dX5_firstOf_17 : decode cX5_firstOf 17 = .ok (.if_icmp .ge 47, 3) := by decide +kernel
theorem dX5_firstOf_20 : decode cX5_firstOf 20 = .ok (.iload_n 2, 1) := by decide +kernel
theorem dX5_firstOf_21 : decode cX5_firstOf 21 = .ok (.ifCond .le 43, 3) := by decide +kernel
theorem dX5_firstOf_24 : decode cX5_firstOf 24 = .ok (.aload_n 0, 1) := by decide +kernel
theorem dX5_firstOf_25 : decode cX5_firstOf 25 = .ok (.iload_n 3, 1) := by decide +kernel
theorem dX5_firstOf_26 : decode cX5_firstOf 26 = .ok (.aload_n 0, 1) := by decide +kernel
theorem dX5_firstOf_27 : decode cX5_firstOf 27 = .ok (.getfield 59, 3) := by decide +kernel
theorem dX5_firstOf_30 : decode cX5_firstOf 30 = .ok (.invokevirtual 124, 3) := by decide +kernel
theorem dX5_firstOf_33 : decode cX5_firstOf 33 = .ok (.ifCond .eq 25, 3) := by decide +kernel
theorem dX5_firstOf_36 : decode cX5_firstOf 36 = .ok (.aload_n 0, 1) := by decide +kernel
theorem dX5_firstOf_37 : decode cX5_firstOf 37 = .ok (.aload_n 0, 1) := by decide +kernel
theorem dX5_firstOf_38 : decode cX5_firstOf 38 = .ok (.iload_n 3, 1) := by decide +kernel
theorem dX5_firstOf_39 : decode cX5_firstOf 39 = .ok (.aload_n 0, 1) := by decide +kernel
theorem dX5_firstOf_40 : decode cX5_firstOf 40 = .ok (.getfield 59, 3) := by decide +kernel
theorem dX5_firstOf_43 : decode cX5_firstOf 43 = .ok (.invokevirtual 134, 3) := by decide +kernel
theorem dX5_firstOf_46 : decode cX5_firstOf 46 = .ok (.iload_n 1, 1) := by decide +kernel
theorem dX5_firstOf_47 : decode cX5_firstOf 47 = .ok (.invokevirtual 152, 3) := by decide +kernel
theorem dX5_firstOf_50 : decode cX5_firstOf 50 = .ok (.iload_n 2, 1) := by decide +kernel
theorem dX5_firstOf_51 : decode cX5_firstOf 51 = .ok (.iconst 1, 1) := by decide +kernel
theorem dX5_firstOf_52 : decode cX5_firstOf 52 = .ok (.isub, 1) := by decide +kernel
theorem dX5_firstOf_53 : decode cX5_firstOf 53 = .ok (.if_icmp .ne 5, 3) := by decide +kernel
theorem dX5_firstOf_56 : decode cX5_firstOf 56 = .ok (.iload_n 3, 1) := by decide +kernel
theorem dX5_firstOf_57 : decode cX5_firstOf 57 = .ok (.ireturn, 1) := by decide +kernel
theorem dX5_firstOf_58 : decode cX5_firstOf 58 = .ok (.iinc 3 1, 3) := by decide +kernel
theorem dX5_firstOf_61 : decode cX5_firstOf 61 = .ok (.goto (-49), 3) := by decide +kernel
theorem dX5_firstOf_64 : decode cX5_firstOf 64 = .ok (.iconst (-1), 1) := by decide +kernel
theorem dX5_firstOf_65 : decode cX5_firstOf 65 = .ok (.ireturn, 1) := by decide +kernel
set_option maxRecDepth 20000 in
theorem ggX5_tell_X5_counts : GoodIn wsX5_tell wsX5_counts := goodIn_r _ [8, 1, 2, 23, 24, 25, 26, 27, 28, 29, 30, 31, 32, 33, 34, 35, 36, 37, 38, 39, 40, 41, 42, 43, 44, 45, 46, 47, 48, 49, 50, 51, 52, 53, 54, 55, 56, 57] (by decide +kernel) (by decide +kernel)
set_option maxRecDepth 20000 in
theorem gX5_tell_X5_counts : GoodIn wsX5_tell (wsV RX5 124 RX5 yX5_counts wsX5_counts) := goodIn_app (goodIn_of _ (by decide +kernel)) ggX5_tell_X5_counts
set_option maxRecDepth 20000 in
theorem ggX5_tell_X5_fewFrom : GoodIn wsX5_tell wsX5_fewFrom := goodIn_r _ [12, 13, 14, 15, 16, 7, 17, 18, 4, 5, 6, 8, 1, 2, 19, 20, 21, 22, 23, 24, 25, 26, 27, 28, 29, 30, 31, 32, 33, 34, 35, 36, 37, 38, 39, 40, 41, 42, 43, 44, 45, 46, 47, 48, 49, 50, 51, 52, 53, 54, 55, 56, 57] (by decide +kernel) (by decide +kernel)
set_option maxRecDepth 20000 in
theorem gX5_tell_X5_fewFrom : GoodIn wsX5_tell (wsV RX5 152 RX5 yX5_fewFrom wsX5_fewFrom) := goodIn_app (goodIn_of _ (by decide +kernel)) ggX5_tell_X5_fewFrom
theorem dX5_tell_0 : decode cX5_tell 0 = .ok (.iload_n 2, 1) := by decide +kernel
theorem dX5_tell_1 : decode cX5_tell 1 = .ok (.tableswitch 98 0 5 #[39, 39, 50, 59, 77, 88], 39) := by decide +kernel
theorem dX5_tell_40 : decode cX5_tell 40 = .ok (.aload_n 0, 1) := by decide +kernel
theorem dX5_tell_41 : decode cX5_tell 41 = .ok (.getfield 16, 3) := by decide +kernel
theorem dX5_tell_44 : decode cX5_tell 44 = .ok (.iconst 3, 1) := by decide +kernel
theorem dX5_tell_45 : decode cX5_tell 45 = .ok (.iload_n 1, 1) := by decide +kernel
theorem dX5_tell_46 : decode cX5_tell 46 = .ok (.imul, 1) := by decide +kernel
theorem dX5_tell_47 : decode cX5_tell 47 = .ok (.iload_n 2, 1) := by decide +kernel
theorem dX5_tell_48 : decode cX5_tell 48 = .ok (.iadd, 1) := by decide +kernel
theorem dX5_tell_49 : decode cX5_tell 49 = .ok (.iaload, 1) := by decide +kernel
theorem dX5_tell_50 : decode cX5_tell 50 = .ok (.ireturn, 1) := by decide +kernel
theorem dX5_tell_51 : decode cX5_tell 51 = .ok (.aload_n 0, 1) := by decide +kernel
theorem dX5_tell_52 : decode cX5_tell 52 = .ok (.getfield 100, 3) := by decide +kernel
theorem dX5_tell_55 : decode cX5_tell 55 = .ok (.iload_n 1, 1) := by decide +kernel
theorem dX5_tell_56 : decode cX5_tell 56 = .ok (.ishr, 1) := by decide +kernel
theorem dX5_tell_57 : decode cX5_tell 57 = .ok (.iconst 1, 1) := by decide +kernel
theorem dX5_tell_58 : decode cX5_tell 58 = .ok (.iand, 1) := by decide +kernel
theorem dX5_tell_59 : decode cX5_tell 59 = .ok (.ireturn, 1) := by decide +kernel
theorem dX5_tell_60 : decode cX5_tell 60 = .ok (.aload_n 0, 1) := by decide +kernel
theorem dX5_tell_61 : decode cX5_tell 61 = .ok (.iload_n 1, 1) := by decide +kernel
theorem dX5_tell_62 : decode cX5_tell 62 = .ok (.aload_n 0, 1) := by decide +kernel
theorem dX5_tell_63 : decode cX5_tell 63 = .ok (.getfield 59, 3) := by decide +kernel
theorem dX5_tell_66 : decode cX5_tell 66 = .ok (.invokevirtual 124, 3) := by decide +kernel
theorem dX5_tell_69 : decode cX5_tell 69 = .ok (.ifCond .eq 7, 3) := by decide +kernel
theorem dX5_tell_72 : decode cX5_tell 72 = .ok (.iconst 1, 1) := by decide +kernel
theorem dX5_tell_73 : decode cX5_tell 73 = .ok (.goto 4, 3) := by decide +kernel
theorem dX5_tell_76 : decode cX5_tell 76 = .ok (.iconst 0, 1) := by decide +kernel
theorem dX5_tell_77 : decode cX5_tell 77 = .ok (.ireturn, 1) := by decide +kernel
theorem dX5_tell_78 : decode cX5_tell 78 = .ok (.aload_n 0, 1) := by decide +kernel
theorem dX5_tell_79 : decode cX5_tell 79 = .ok (.getfield 16, 3) := by decide +kernel
theorem dX5_tell_82 : decode cX5_tell 82 = .ok (.iconst 3, 1) := by decide +kernel
theorem dX5_tell_83 : decode cX5_tell 83 = .ok (.iload_n 1, 1) := by decide +kernel
theorem dX5_tell_84 : decode cX5_tell 84 = .ok (.imul, 1) := by decide +kernel
theorem dX5_tell_85 : decode cX5_tell 85 = .ok (.iconst 2, 1) := by decide +kernel
theorem dX5_tell_86 : decode cX5_tell 86 = .ok (.iadd, 1) := by decide +kernel
theorem dX5_tell_87 : decode cX5_tell 87 = .ok (.iaload, 1) := by decide +kernel
theorem dX5_tell_88 : decode cX5_tell 88 = .ok (.ireturn, 1) := by decide +kernel
theorem dX5_tell_89 : decode cX5_tell 89 = .ok (.aload_n 0, 1) := by decide +kernel
theorem dX5_tell_90 : decode cX5_tell 90 = .ok (.aload_n 0, 1) := by decide +kernel
theorem dX5_tell_91 : decode cX5_tell 91 = .ok (.getfield 59, 3) := by decide +kernel
theorem dX5_tell_94 : decode cX5_tell 94 = .ok (.iload_n 1, 1) := by decide +kernel
theorem dX5_tell_95 : decode cX5_tell 95 = .ok (.invokevirtual 152, 3) := by decide +kernel
theorem dX5_tell_98 : decode cX5_tell 98 = .ok (.ireturn, 1) := by decide +kernel
theorem dX5_tell_99 : decode cX5_tell 99 = .ok (.bipush (-102), 2) := by decide +kernel
theorem dX5_tell_101 : decode cX5_tell 101 = .ok (.ireturn, 1) := by decide +kernel
set_option maxRecDepth 20000 in
theorem ggX5_seat_X5_isSeat : GoodIn wsX5_seat wsX5_isSeat := goodIn_r _ [5, 6, 7, 8, 4, 9, 34, 35, 36, 37, 38, 39, 40, 41, 42, 43, 44, 45, 46, 47, 48, 49, 50, 51, 52, 53, 54, 55, 56, 57, 58, 59, 60, 61, 62, 63, 64, 65, 66, 67, 68] (by decide +kernel) (by decide +kernel)
set_option maxRecDepth 20000 in
theorem gX5_seat_X5_isSeat : GoodIn wsX5_seat (wsV RX5 155 RX5 yX5_isSeat wsX5_isSeat) := goodIn_app (goodIn_of _ (by decide +kernel)) ggX5_seat_X5_isSeat
set_option maxRecDepth 20000 in
theorem ggX5_seat_X5_tell : GoodIn wsX5_seat wsX5_tell := goodIn_r _ [13, 14, 15, 16, 17, 18, 19, 4, 20, 21, 22, 23, 24, 25, 26, 27, 28, 29, 6, 30, 31, 32, 33, 34, 35, 36, 37, 38, 39, 40, 41, 42, 43, 44, 45, 46, 47, 48, 49, 50, 51, 52, 53, 54, 55, 56, 57, 58, 59, 60, 61, 62, 63, 64, 65, 66, 67, 68] (by decide +kernel) (by decide +kernel)
set_option maxRecDepth 20000 in
theorem gX5_seat_X5_tell : GoodIn wsX5_seat (wsV RX5 158 RX5 yX5_tell wsX5_tell) := goodIn_app (goodIn_of _ (by decide +kernel)) ggX5_seat_X5_tell
theorem dX5_seat_0 : decode cX5_seat 0 = .ok (.aload_n 0, 1) := by decide +kernel
theorem dX5_seat_1 : decode cX5_seat 1 = .ok (.iload_n 1, 1) := by decide +kernel
theorem dX5_seat_2 : decode cX5_seat 2 = .ok (.invokevirtual 155, 3) := by decide +kernel
theorem dX5_seat_5 : decode cX5_seat 5 = .ok (.ifCond .eq 12, 3) := by decide +kernel
theorem dX5_seat_8 : decode cX5_seat 8 = .ok (.aload_n 0, 1) := by decide +kernel
theorem dX5_seat_9 : decode cX5_seat 9 = .ok (.iload_n 1, 1) := by decide +kernel
theorem dX5_seat_10 : decode cX5_seat 10 = .ok (.iload_n 2, 1) := by decide +kernel
theorem dX5_seat_11 : decode cX5_seat 11 = .ok (.invokevirtual 158, 3) := by decide +kernel
theorem dX5_seat_14 : decode cX5_seat 14 = .ok (.goto 5, 3) := by decide +kernel
theorem dX5_seat_17 : decode cX5_seat 17 = .ok (.bipush (-101), 2) := by decide +kernel
theorem dX5_seat_19 : decode cX5_seat 19 = .ok (.ireturn, 1) := by decide +kernel
set_option maxRecDepth 20000 in
theorem ggX5_as_X5_isSeat : GoodIn wsX5_as wsX5_isSeat := goodIn_r _ [7, 8, 9, 10, 6, 11, 12, 13, 14, 15, 16, 17, 18, 19, 20, 21, 22, 23, 24, 25, 26, 27, 28, 29, 30, 31, 32, 33, 34, 35, 36, 37, 38, 39, 40, 41, 42, 43, 44, 45, 46] (by decide +kernel) (by decide +kernel)
set_option maxRecDepth 20000 in
theorem gX5_as_X5_isSeat : GoodIn wsX5_as (wsV RX5 155 RX5 yX5_isSeat wsX5_isSeat) := goodIn_app (goodIn_of _ (by decide +kernel)) ggX5_as_X5_isSeat
set_option maxRecDepth 20000 in
theorem ggX5_as_X5_in : GoodIn wsX5_as wsX5_in := goodIn_r _ [11] (by decide +kernel) (by decide +kernel)
set_option maxRecDepth 20000 in
theorem gX5_as_X5_in : GoodIn wsX5_as (va_wsS RX5 64 yX5_in wsX5_in) := goodIn_app (goodIn_of _ (by decide +kernel)) ggX5_as_X5_in
theorem dX5_as_0 : decode cX5_as 0 = .ok (.aload_n 0, 1) := by decide +kernel
theorem dX5_as_1 : decode cX5_as 1 = .ok (.iload_n 1, 1) := by decide +kernel
theorem dX5_as_2 : decode cX5_as 2 = .ok (.invokevirtual 155, 3) := by decide +kernel
theorem dX5_as_5 : decode cX5_as 5 = .ok (.ifCond .ne 6, 3) := by decide +kernel
theorem dX5_as_8 : decode cX5_as 8 = .ok (.bipush (-101), 2) := by decide +kernel
theorem dX5_as_10 : decode cX5_as 10 = .ok (.ireturn, 1) := by decide +kernel
theorem dX5_as_11 : decode cX5_as 11 = .ok (.iload_n 2, 1) := by decide +kernel
theorem dX5_as_12 : decode cX5_as 12 = .ok (.i2l, 1) := by decide +kernel
theorem dX5_as_13 : decode cX5_as 13 = .ok (.lconst 0, 1) := by decide +kernel
theorem dX5_as_14 : decode cX5_as 14 = .ok (.ldc2_w 161, 3) := by decide +kernel
theorem dX5_as_17 : decode cX5_as 17 = .ok (.invokestatic 64, 3) := by decide +kernel
theorem dX5_as_20 : decode cX5_as 20 = .ok (.ifCond .ne 6, 3) := by decide +kernel
theorem dX5_as_23 : decode cX5_as 23 = .ok (.bipush (-102), 2) := by decide +kernel
theorem dX5_as_25 : decode cX5_as 25 = .ok (.ireturn, 1) := by decide +kernel
theorem dX5_as_26 : decode cX5_as 26 = .ok (.aload_n 0, 1) := by decide +kernel
theorem dX5_as_27 : decode cX5_as 27 = .ok (.getfield 16, 3) := by decide +kernel
theorem dX5_as_30 : decode cX5_as 30 = .ok (.iconst 3, 1) := by decide +kernel
theorem dX5_as_31 : decode cX5_as 31 = .ok (.iload_n 1, 1) := by decide +kernel
theorem dX5_as_32 : decode cX5_as 32 = .ok (.imul, 1) := by decide +kernel
theorem dX5_as_33 : decode cX5_as 33 = .ok (.iaload, 1) := by decide +kernel
theorem dX5_as_34 : decode cX5_as 34 = .ok (.istore_n 3, 1) := by decide +kernel
theorem dX5_as_35 : decode cX5_as 35 = .ok (.iload_n 2, 1) := by decide +kernel
theorem dX5_as_36 : decode cX5_as 36 = .ok (.ifCond .eq 18, 3) := by decide +kernel
theorem dX5_as_39 : decode cX5_as 39 = .ok (.iload_n 2, 1) := by decide +kernel
theorem dX5_as_40 : decode cX5_as 40 = .ok (.iload_n 3, 1) := by decide +kernel
theorem dX5_as_41 : decode cX5_as 41 = .ok (.if_icmp .eq 13, 3) := by decide +kernel
theorem dX5_as_44 : decode cX5_as 44 = .ok (.iload_n 2, 1) := by decide +kernel
theorem dX5_as_45 : decode cX5_as 45 = .ok (.iconst 1, 1) := by decide +kernel
theorem dX5_as_46 : decode cX5_as 46 = .ok (.if_icmp .ne 12, 3) := by decide +kernel
theorem dX5_as_49 : decode cX5_as 49 = .ok (.iload_n 3, 1) := by decide +kernel
theorem dX5_as_50 : decode cX5_as 50 = .ok (.iconst 4, 1) := by decide +kernel
theorem dX5_as_51 : decode cX5_as 51 = .ok (.if_icmp .ne 7, 3) := by decide +kernel
theorem dX5_as_54 : decode cX5_as 54 = .ok (.iconst 1, 1) := by decide +kernel
theorem dX5_as_55 : decode cX5_as 55 = .ok (.goto 4, 3) := by decide +kernel
theorem dX5_as_58 : decode cX5_as 58 = .ok (.iconst 0, 1) := by decide +kernel
theorem dX5_as_59 : decode cX5_as 59 = .ok (.istore 4, 2) := by decide +kernel
theorem dX5_as_61 : decode cX5_as 61 = .ok (.iload 4, 2) := by decide +kernel
theorem dX5_as_63 : decode cX5_as 63 = .ok (.ifCond .eq 7, 3) := by decide +kernel
theorem dX5_as_66 : decode cX5_as 66 = .ok (.iload_n 1, 1) := by decide +kernel
theorem dX5_as_67 : decode cX5_as 67 = .ok (.goto 4, 3) := by decide +kernel
theorem dX5_as_70 : decode cX5_as 70 = .ok (.iconst (-1), 1) := by decide +kernel
theorem dX5_as_71 : decode cX5_as 71 = .ok (.ireturn, 1) := by decide +kernel
set_option maxRecDepth 20000 in
theorem ggX5_get_X5_isSeat : GoodIn wsX5_get wsX5_isSeat := goodIn_r _ [6, 7, 8, 9, 5, 10, 34, 35, 36, 37, 38, 39, 40, 41, 42, 43, 44, 45, 46, 47, 48, 49, 50, 51, 52, 53, 54, 55, 56, 57, 58, 59, 60, 61, 62, 63, 64, 65, 66, 67, 68] (by decide +kernel) (by decide +kernel)
set_option maxRecDepth 20000 in
theorem gX5_get_X5_isSeat : GoodIn wsX5_get (wsV RX5 155 RX5 yX5_isSeat wsX5_isSeat) := goodIn_app (goodIn_of _ (by decide +kernel)) ggX5_get_X5_isSeat
set_option maxRecDepth 20000 in
theorem ggX5_get_X5_in : GoodIn wsX5_get wsX5_in := goodIn_r _ [10] (by decide +kernel) (by decide +kernel)
set_option maxRecDepth 20000 in
theorem gX5_get_X5_in : GoodIn wsX5_get (va_wsS RX5 64 yX5_in wsX5_in) := goodIn_app (goodIn_of _ (by decide +kernel)) ggX5_get_X5_in
set_option maxRecDepth 20000 in
theorem ggX5_get_X5_fewFrom : GoodIn wsX5_get wsX5_fewFrom := goodIn_r _ [14, 15, 16, 17, 18, 5, 19, 7, 20, 21, 22, 23, 24, 25, 26, 27, 28, 29, 34, 35, 36, 37, 38, 39, 40, 41, 42, 43, 44, 45, 46, 47, 48, 49, 50, 51, 52, 53, 54, 55, 56, 57, 58, 59, 60, 61, 62, 63, 64, 65, 66, 67, 68] (by decide +kernel) (by decide +kernel)
set_option maxRecDepth 20000 in
theorem gX5_get_X5_fewFrom : GoodIn wsX5_get (wsV RX5 152 RX5 yX5_fewFrom wsX5_fewFrom) := goodIn_app (goodIn_of _ (by decide +kernel)) ggX5_get_X5_fewFrom
set_option maxRecDepth 20000 in
theorem ggX5_get_X5_firstOf : GoodIn wsX5_get wsX5_firstOf := goodIn_r _ [33, 1, 7, 11, 12, 13, 5, 14, 15, 16, 17, 18, 19, 20, 21, 22, 23, 24, 25, 26, 27, 28, 29, 34, 35, 36, 37, 38, 39, 40, 41, 42, 43, 44, 45, 46, 47, 48, 49, 50, 51, 52, 53, 54, 55, 56, 57, 58, 59, 60, 61, 62, 63, 64, 65, 66, 67, 68] (by decide +kernel) (by decide +kernel)
set_option maxRecDepth 20000 in
theorem gX5_get_X5_firstOf : GoodIn wsX5_get (wsV RX5 163 RX5 yX5_firstOf wsX5_firstOf) := goodIn_app (goodIn_of _ (by decide +kernel)) ggX5_get_X5_firstOf
theorem dX5_get_0 : decode cX5_get 0 = .ok (.aload_n 0, 1) := by decide +kernel
theorem dX5_get_1 : decode cX5_get 1 = .ok (.iload_n 1, 1) := by decide +kernel
theorem dX5_get_2 : decode cX5_get 2 = .ok (.invokevirtual 155, 3) := by decide +kernel
theorem dX5_get_5 : decode cX5_get 5 = .ok (.ifCond .ne 6, 3) := by decide +kernel
theorem dX5_get_8 : decode cX5_get 8 = .ok (.bipush (-101), 2) := by decide +kernel
theorem dX5_get_10 : decode cX5_get 10 = .ok (.ireturn, 1) := by decide +kernel
theorem dX5_get_11 : decode cX5_get 11 = .ok (.iload_n 2, 1) := by decide +kernel
theorem dX5_get_12 : decode cX5_get 12 = .ok (.i2l, 1) := by decide +kernel
theorem dX5_get_13 : decode cX5_get 13 = .ok (.lconst 0, 1) := by decide +kernel
theorem dX5_get_14 : decode cX5_get 14 = .ok (.lconst 1, 1) := by decide +kernel
theorem dX5_get_15 : decode cX5_get 15 = .ok (.invokestatic 64, 3) := by decide +kernel
theorem dX5_get_18 : decode cX5_get 18 = .ok (.ifCond .ne 6, 3) := by decide +kernel
theorem dX5_get_21 : decode cX5_get 21 = .ok (.bipush (-102), 2) := by decide +kernel
theorem dX5_get_23 : decode cX5_get 23 = .ok (.ireturn, 1) := by decide +kernel
theorem dX5_get_24 : decode cX5_get 24 = .ok (.iload_n 2, 1) := by decide +kernel
theorem dX5_get_25 : decode cX5_get 25 = .ok (.ifCond .ne 15, 3) := by decide +kernel
theorem dX5_get_28 : decode cX5_get 28 = .ok (.aload_n 0, 1) := by decide +kernel
theorem dX5_get_29 : decode cX5_get 29 = .ok (.aload_n 0, 1) := by decide +kernel
theorem dX5_get_30 : decode cX5_get 30 = .ok (.getfield 59, 3) := by decide +kernel
theorem dX5_get_33 : decode cX5_get 33 = .ok (.iload_n 1, 1) := by decide +kernel
theorem dX5_get_34 : decode cX5_get 34 = .ok (.invokevirtual 152, 3) := by decide +kernel
theorem dX5_get_37 : decode cX5_get 37 = .ok (.goto 8, 3) := by decide +kernel
theorem dX5_get_40 : decode cX5_get 40 = .ok (.aload_n 0, 1) := by decide +kernel
theorem dX5_get_41 : decode cX5_get 41 = .ok (.iload_n 1, 1) := by decide +kernel
theorem dX5_get_42 : decode cX5_get 42 = .ok (.invokevirtual 163, 3) := by decide +kernel
theorem dX5_get_45 : decode cX5_get 45 = .ok (.ireturn, 1) := by decide +kernel
set_option maxRecDepth 20000 in
theorem ggX5_worthAtEnd_X5_isSeat : GoodIn wsX5_worthAtEnd wsX5_isSeat := goodIn_r _ [6, 7, 8, 9, 5, 10, 11, 12, 13, 14, 15, 16, 17, 18, 19, 20, 21, 22, 23, 24, 25, 26, 27, 28, 29, 30, 31, 32, 33, 34, 35, 36, 37, 38, 39, 40, 41, 42, 43, 44, 45] (by decide +kernel) (by decide +kernel)
set_option maxRecDepth 20000 in
theorem gX5_worthAtEnd_X5_isSeat : GoodIn wsX5_worthAtEnd (wsV RX5 155 RX5 yX5_isSeat wsX5_isSeat) := goodIn_app (goodIn_of _ (by decide +kernel)) ggX5_worthAtEnd_X5_isSeat
theorem dX5_worthAtEnd_0 : decode cX5_worthAtEnd 0 = .ok (.iload_n 1, 1) := by decide +kernel
theorem dX5_worthAtEnd_1 : decode cX5_worthAtEnd 1 = .ok (.bipush 8, 2) := by decide +kernel
theorem dX5_worthAtEnd_3 : decode cX5_worthAtEnd 3 = .ok (.irem, 1) := by decide +kernel
theorem dX5_worthAtEnd_4 : decode cX5_worthAtEnd 4 = .ok (.istore_n 2, 1) := by decide +kernel
theorem dX5_worthAtEnd_5 : decode cX5_worthAtEnd 5 = .ok (.aload_n 0, 1) := by decide +kernel
theorem dX5_worthAtEnd_6 : decode cX5_worthAtEnd 6 = .ok (.iload_n 2, 1) := by decide +kernel
theorem dX5_worthAtEnd_7 : decode cX5_worthAtEnd 7 = .ok (.invokevirtual 155, 3) := by decide +kernel
theorem dX5_worthAtEnd_10 : decode cX5_worthAtEnd 10 = .ok (.ifCond .ne 7, 3) := by decide +kernel
theorem dX5_worthAtEnd_13 : decode cX5_worthAtEnd 13 = .ok (.iconst 1, 1) := by decide +kernel
theorem dX5_worthAtEnd_14 : decode cX5_worthAtEnd 14 = .ok (.goto 21, 3) := by decide +kernel
theorem dX5_worthAtEnd_17 : decode cX5_worthAtEnd 17 = .ok (.aload_n 0, 1) := by decide +kernel
theorem dX5_worthAtEnd_18 : decode cX5_worthAtEnd 18 = .ok (.getfield 16, 3) := by decide +kernel
theorem dX5_worthAtEnd_21 : decode cX5_worthAtEnd 21 = .ok (.iconst 3, 1) := by decide +kernel
theorem dX5_worthAtEnd_22 : decode cX5_worthAtEnd 22 = .ok (.iload_n 2, 1) := by decide +kernel
theorem dX5_worthAtEnd_23 : decode cX5_worthAtEnd 23 = .ok (.imul, 1) := by decide +kernel
theorem dX5_worthAtEnd_24 : decode cX5_worthAtEnd 24 = .ok (.iconst 1, 1) := by decide +kernel
theorem dX5_worthAtEnd_25 : decode cX5_worthAtEnd 25 = .ok (.iadd, 1) := by decide +kernel
theorem dX5_worthAtEnd_26 : decode cX5_worthAtEnd 26 = .ok (.iaload, 1) := by decide +kernel
theorem dX5_worthAtEnd_27 : decode cX5_worthAtEnd 27 = .ok (.ifCond .ne 7, 3) := by decide +kernel
theorem dX5_worthAtEnd_30 : decode cX5_worthAtEnd 30 = .ok (.iconst 2, 1) := by decide +kernel
theorem dX5_worthAtEnd_31 : decode cX5_worthAtEnd 31 = .ok (.goto 4, 3) := by decide +kernel
theorem dX5_worthAtEnd_34 : decode cX5_worthAtEnd 34 = .ok (.iconst 0, 1) := by decide +kernel
theorem dX5_worthAtEnd_35 : decode cX5_worthAtEnd 35 = .ok (.ireturn, 1) := by decide +kernel
set_option maxRecDepth 20000 in
theorem ggX5_layPlay_X5_worthAtEnd : GoodIn wsX5_layPlay wsX5_worthAtEnd := goodIn_r _ [11, 3, 12, 13, 14, 10, 15, 2, 16, 17, 18, 31, 32, 33, 34, 35, 36, 37, 38, 39, 40, 41, 42, 43, 44, 45, 46, 47, 48, 49, 50, 51, 52, 53, 54, 55, 56, 57, 58, 59, 60, 61, 62, 63, 64, 65] (by decide +kernel) (by decide +kernel)
set_option maxRecDepth 20000 in
theorem gX5_layPlay_X5_worthAtEnd : GoodIn wsX5_layPlay (wsV RX5 166 RX5 yX5_worthAtEnd wsX5_worthAtEnd) := goodIn_app (goodIn_of _ (by decide +kernel)) ggX5_layPlay_X5_worthAtEnd
set_option maxRecDepth 20000 in
theorem ggX5_layPlay_X5_counts : GoodIn wsX5_layPlay wsX5_counts := goodIn_r _ [22, 3, 23, 31, 32, 33, 34, 35, 36, 37, 38, 39, 40, 41, 42, 43, 44, 45, 46, 47, 48, 49, 50, 51, 52, 53, 54, 55, 56, 57, 58, 59, 60, 61, 62, 63, 64, 65] (by decide +kernel) (by decide +kernel)
set_option maxRecDepth 20000 in
theorem gX5_layPlay_X5_counts : GoodIn wsX5_layPlay (wsV RX5 124 RX5 yX5_counts wsX5_counts) := goodIn_app (goodIn_of _ (by decide +kernel)) ggX5_layPlay_X5_counts
set_option maxRecDepth 20000 in
theorem ggX5_layPlay_X5_behind : GoodIn wsX5_layPlay wsX5_behind := goodIn_r _ [27, 3, 2, 31, 32, 33, 34, 35, 36, 37, 38, 39, 40, 41, 42, 43, 44, 45, 46, 47, 48, 49, 50, 51, 52, 53, 54, 55, 56, 57, 58, 59, 60, 61, 62, 63, 64, 65] (by decide +kernel) (by decide +kernel)
set_option maxRecDepth 20000 in
theorem gX5_layPlay_X5_behind : GoodIn wsX5_layPlay (wsV RX5 134 RX5 yX5_behind wsX5_behind) := goodIn_app (goodIn_of _ (by decide +kernel)) ggX5_layPlay_X5_behind
set_option maxRecDepth 20000 in
theorem ggX5_layPlay_X5_copy : GoodIn wsX5_layPlay wsX5_copy := goodIn_r _ [30] (by decide +kernel) (by decide +kernel)
set_option maxRecDepth 20000 in
theorem gX5_layPlay_X5_copy : GoodIn wsX5_layPlay (va_wsS RX5 172 yX5_copy wsX5_copy) := goodIn_app (goodIn_of _ (by decide +kernel)) ggX5_layPlay_X5_copy
theorem dX5_layPlay_0 : decode cX5_layPlay 0 = .ok (.iconst 0, 1) := by decide +kernel
theorem dX5_layPlay_1 : decode cX5_layPlay 1 = .ok (.istore_n 2, 1) := by decide +kernel
theorem dX5_layPlay_2 : decode cX5_layPlay 2 = .ok (.iload_n 2, 1) := by decide +kernel
theorem dX5_layPlay_3 : decode cX5_layPlay 3 = .ok (.bipush 64, 2) := by decide +kernel
theorem dX5_layPlay_5 : decode cX5_layPlay 5 = .ok (.if_icmp .ge 20, 3) := by decide +kernel
theorem dX5_layPlay_8 : decode cX5_layPlay 8 = .ok (.aload_n 0, 1) := by decide +kernel
theorem dX5_layPlay_9 : decode cX5_layPlay 9 = .ok (.getfield 22, 3) := by decide +kernel
theorem dX5_layPlay_12 : decode cX5_layPlay 12 = .ok (.iload_n 2, 1) := by decide +kernel
theorem dX5_layPlay_13 : decode cX5_layPlay 13 = .ok (.aload_n 0, 1) := by decide +kernel
theorem dX5_layPlay_14 : decode cX5_layPlay 14 = .ok (.iload_n 2, 1) := by decide +kernel
theorem dX5_layPlay_15 : decode cX5_layPlay 15 = .ok (.invokevirtual 166, 3) := by decide +kernel
theorem dX5_layPlay_18 : decode cX5_layPlay 18 = .ok (.iastore, 1) := by decide +kernel
theorem dX5_layPlay_19 : decode cX5_layPlay 19 = .ok (.iinc 2 1, 3) := by decide +kernel
theorem dX5_layPlay_22 : decode cX5_layPlay 22 = .ok (.goto (-20), 3) := by decide +kernel
theorem dX5_layPlay_25 : decode cX5_layPlay 25 = .ok (.iconst 1, 1) := by decide +kernel
theorem dX5_layPlay_26 : decode cX5_layPlay 26 = .ok (.istore_n 2, 1) := by decide +kernel
theorem dX5_layPlay_27 : decode cX5_layPlay 27 = .ok (.iload_n 2, 1) := by decide +kernel
theorem dX5_layPlay_28 : decode cX5_layPlay 28 = .ok (.iload_n 1, 1) := by decide +kernel
theorem dX5_layPlay_29 : decode cX5_layPlay 29 = .ok (.if_icmp .gt 215, 3) := by decide +kernel
theorem dX5_layPlay_32 : decode cX5_layPlay 32 = .ok (.iload_n 1, 1) := by decide +kernel
theorem dX5_layPlay_33 : decode cX5_layPlay 33 = .ok (.iload_n 2, 1) := by decide +kernel
theorem dX5_layPlay_34 : decode cX5_layPlay 34 = .ok (.isub, 1) := by decide +kernel
theorem dX5_layPlay_35 : decode cX5_layPlay 35 = .ok (.iconst 2, 1) := by decide +kernel
theorem dX5_layPlay_36 : decode cX5_layPlay 36 = .ok (.irem, 1) := by decide +kernel
theorem dX5_layPlay_37 : decode cX5_layPlay 37 = .ok (.istore_n 3, 1) := by decide +kernel
theorem dX5_layPlay_38 : decode cX5_layPlay 38 = .ok (.iconst 0, 1) := by decide +kernel
theorem dX5_layPlay_39 : decode cX5_layPlay 39 = .ok (.istore 4, 2) := by decide +kernel
theorem dX5_layPlay_41 : decode cX5_layPlay 41 = .ok (.iload 4, 2) := by decide +kernel
theorem dX5_layPlay_43 : decode cX5_layPlay 43 = .ok (.bipush 64, 2) := by decide +kernel
theorem dX5_layPlay_45 : decode cX5_layPlay 45 = .ok (.if_icmp .ge 182, 3) := by decide +kernel
theorem dX5_layPlay_48 : decode cX5_layPlay 48 = .ok (.aload_n 0, 1) := by decide +kernel
theorem dX5_layPlay_49 : decode cX5_layPlay 49 = .ok (.getfield 22, 3) := by decide +kernel
end
section
theorem dX5_layPlay_52 : decode cX5_layPlay 52 = .ok (.iload 4, 2) := by decide +kernel
theorem dX5_layPlay_54 : decode cX5_layPlay 54 = .ok (.iaload, 1) := by decide +kernel
theorem dX5_layPlay_55 : decode cX5_layPlay 55 = .ok (.istore 5, 2) := by decide +kernel
theorem dX5_layPlay_57 : decode cX5_layPlay 57 = .ok (.iconst (-1), 1) := by decide +kernel
theorem dX5_layPlay_58 : decode cX5_layPlay 58 = .ok (.istore 6, 2) := by decide +kernel
theorem dX5_layPlay_60 : decode cX5_layPlay 60 = .ok (.iconst 0, 1) := by decide +kernel
theorem dX5_layPlay_61 : decode cX5_layPlay 61 = .ok (.istore 7, 2) := by decide +kernel
theorem dX5_layPlay_63 : decode cX5_layPlay 63 = .ok (.iload 7, 2) := by decide +kernel
theorem dX5_layPlay_65 : decode cX5_layPlay 65 = .ok (.aload_n 0, 1) := by decide +kernel
theorem dX5_layPlay_66 : decode cX5_layPlay 66 = .ok (.getfield 94, 3) := by decide +kernel
theorem dX5_layPlay_69 : decode cX5_layPlay 69 = .ok (.if_icmp .ge 121, 3) := by decide +kernel
theorem dX5_layPlay_72 : decode cX5_layPlay 72 = .ok (.aload_n 0, 1) := by decide +kernel
theorem dX5_layPlay_73 : decode cX5_layPlay 73 = .ok (.getfield 16, 3) := by decide +kernel
theorem dX5_layPlay_76 : decode cX5_layPlay 76 = .ok (.iconst 3, 1) := by decide +kernel
theorem dX5_layPlay_77 : decode cX5_layPlay 77 = .ok (.iload 7, 2) := by decide +kernel
theorem dX5_layPlay_79 : decode cX5_layPlay 79 = .ok (.imul, 1) := by decide +kernel
theorem dX5_layPlay_80 : decode cX5_layPlay 80 = .ok (.iconst 1, 1) := by decide +kernel
theorem dX5_layPlay_81 : decode cX5_layPlay 81 = .ok (.iadd, 1) := by decide +kernel
theorem dX5_layPlay_82 : decode cX5_layPlay 82 = .ok (.iaload, 1) := by decide +kernel
theorem dX5_layPlay_83 : decode cX5_layPlay 83 = .ok (.iload_n 3, 1) := by decide +kernel
theorem dX5_layPlay_84 : decode cX5_layPlay 84 = .ok (.if_icmp .ne 30, 3) := by decide +kernel
theorem dX5_layPlay_87 : decode cX5_layPlay 87 = .ok (.aload_n 0, 1) := by decide +kernel
theorem dX5_layPlay_88 : decode cX5_layPlay 88 = .ok (.iload 7, 2) := by decide +kernel
theorem dX5_layPlay_90 : decode cX5_layPlay 90 = .ok (.iload 4, 2) := by decide +kernel
theorem dX5_layPlay_92 : decode cX5_layPlay 92 = .ok (.invokevirtual 124, 3) := by decide +kernel
theorem dX5_layPlay_95 : decode cX5_layPlay 95 = .ok (.ifCond .eq 19, 3) := by decide +kernel
theorem dX5_layPlay_98 : decode cX5_layPlay 98 = .ok (.aload_n 0, 1) := by decide +kernel
theorem dX5_layPlay_99 : decode cX5_layPlay 99 = .ok (.getfield 22, 3) := by decide +kernel
theorem dX5_layPlay_102 : decode cX5_layPlay 102 = .ok (.aload_n 0, 1) := by decide +kernel
theorem dX5_layPlay_103 : decode cX5_layPlay 103 = .ok (.iload 7, 2) := by decide +kernel
theorem dX5_layPlay_105 : decode cX5_layPlay 105 = .ok (.iload 4, 2) := by decide +kernel
theorem dX5_layPlay_107 : decode cX5_layPlay 107 = .ok (.invokevirtual 134, 3) := by decide +kernel
theorem dX5_layPlay_110 : decode cX5_layPlay 110 = .ok (.iaload, 1) := by decide +kernel
theorem dX5_layPlay_111 : decode cX5_layPlay 111 = .ok (.goto 10, 3) := by decide +kernel
theorem dX5_layPlay_114 : decode cX5_layPlay 114 = .ok (.aload_n 0, 1) := by decide +kernel
theorem dX5_layPlay_115 : decode cX5_layPlay 115 = .ok (.getfield 22, 3) := by decide +kernel
theorem dX5_layPlay_118 : decode cX5_layPlay 118 = .ok (.iload 4, 2) := by decide +kernel
theorem dX5_layPlay_120 : decode cX5_layPlay 120 = .ok (.iaload, 1) := by decide +kernel
theorem dX5_layPlay_121 : decode cX5_layPlay 121 = .ok (.istore 8, 2) := by decide +kernel
theorem dX5_layPlay_123 : decode cX5_layPlay 123 = .ok (.iload_n 3, 1) := by decide +kernel
theorem dX5_layPlay_124 : decode cX5_layPlay 124 = .ok (.ifCond .ne 18, 3) := by decide +kernel
theorem dX5_layPlay_127 : decode cX5_layPlay 127 = .ok (.iload 8, 2) := by decide +kernel
theorem dX5_layPlay_129 : decode cX5_layPlay 129 = .ok (.iload 5, 2) := by decide +kernel
theorem dX5_layPlay_131 : decode cX5_layPlay 131 = .ok (.if_icmp .le 7, 3) := by decide +kernel
theorem dX5_layPlay_134 : decode cX5_layPlay 134 = .ok (.iconst 1, 1) := by decide +kernel
theorem dX5_layPlay_135 : decode cX5_layPlay 135 = .ok (.goto 19, 3) := by decide +kernel
theorem dX5_layPlay_138 : decode cX5_layPlay 138 = .ok (.iconst 0, 1) := by decide +kernel
theorem dX5_layPlay_139 : decode cX5_layPlay 139 = .ok (.goto 15, 3) := by decide +kernel
theorem dX5_layPlay_142 : decode cX5_layPlay 142 = .ok (.iload 8, 2) := by decide +kernel
theorem dX5_layPlay_144 : decode cX5_layPlay 144 = .ok (.iload 5, 2) := by decide +kernel
theorem dX5_layPlay_146 : decode cX5_layPlay 146 = .ok (.if_icmp .ge 7, 3) := by decide +kernel
theorem dX5_layPlay_149 : decode cX5_layPlay 149 = .ok (.iconst 1, 1) := by decide +kernel
theorem dX5_layPlay_150 : decode cX5_layPlay 150 = .ok (.goto 4, 3) := by decide +kernel
theorem dX5_layPlay_153 : decode cX5_layPlay 153 = .ok (.iconst 0, 1) := by decide +kernel
theorem dX5_layPlay_154 : decode cX5_layPlay 154 = .ok (.istore 9, 2) := by decide +kernel
theorem dX5_layPlay_156 : decode cX5_layPlay 156 = .ok (.iload 9, 2) := by decide +kernel
theorem dX5_layPlay_158 : decode cX5_layPlay 158 = .ok (.ifCond .eq 8, 3) := by decide +kernel
theorem dX5_layPlay_161 : decode cX5_layPlay 161 = .ok (.iload 8, 2) := by decide +kernel
theorem dX5_layPlay_163 : decode cX5_layPlay 163 = .ok (.goto 5, 3) := by decide +kernel
theorem dX5_layPlay_166 : decode cX5_layPlay 166 = .ok (.iload 5, 2) := by decide +kernel
theorem dX5_layPlay_168 : decode cX5_layPlay 168 = .ok (.istore 5, 2) := by decide +kernel
theorem dX5_layPlay_170 : decode cX5_layPlay 170 = .ok (.iload 9, 2) := by decide +kernel
theorem dX5_layPlay_172 : decode cX5_layPlay 172 = .ok (.ifCond .eq 8, 3) := by decide +kernel
theorem dX5_layPlay_175 : decode cX5_layPlay 175 = .ok (.iload 7, 2) := by decide +kernel
theorem dX5_layPlay_177 : decode cX5_layPlay 177 = .ok (.goto 5, 3) := by decide +kernel
theorem dX5_layPlay_180 : decode cX5_layPlay 180 = .ok (.iload 6, 2) := by decide +kernel
theorem dX5_layPlay_182 : decode cX5_layPlay 182 = .ok (.istore 6, 2) := by decide +kernel
theorem dX5_layPlay_184 : decode cX5_layPlay 184 = .ok (.iinc 7 1, 3) := by decide +kernel
theorem dX5_layPlay_187 : decode cX5_layPlay 187 = .ok (.goto (-124), 3) := by decide +kernel
theorem dX5_layPlay_190 : decode cX5_layPlay 190 = .ok (.aload_n 0, 1) := by decide +kernel
theorem dX5_layPlay_191 : decode cX5_layPlay 191 = .ok (.getfield 25, 3) := by decide +kernel
theorem dX5_layPlay_194 : decode cX5_layPlay 194 = .ok (.iload 4, 2) := by decide +kernel
theorem dX5_layPlay_196 : decode cX5_layPlay 196 = .ok (.iload 5, 2) := by decide +kernel
theorem dX5_layPlay_198 : decode cX5_layPlay 198 = .ok (.iastore, 1) := by decide +kernel
theorem dX5_layPlay_199 : decode cX5_layPlay 199 = .ok (.aload_n 0, 1) := by decide +kernel
theorem dX5_layPlay_200 : decode cX5_layPlay 200 = .ok (.iload 4, 2) := by decide +kernel
theorem dX5_layPlay_202 : decode cX5_layPlay 202 = .ok (.aload_n 0, 1) := by decide +kernel
theorem dX5_layPlay_203 : decode cX5_layPlay 203 = .ok (.getfield 59, 3) := by decide +kernel
theorem dX5_layPlay_206 : decode cX5_layPlay 206 = .ok (.if_icmp .ne 8, 3) := by decide +kernel
theorem dX5_layPlay_209 : decode cX5_layPlay 209 = .ok (.iload 6, 2) := by decide +kernel
theorem dX5_layPlay_211 : decode cX5_layPlay 211 = .ok (.goto 7, 3) := by decide +kernel
theorem dX5_layPlay_214 : decode cX5_layPlay 214 = .ok (.aload_n 0, 1) := by decide +kernel
theorem dX5_layPlay_215 : decode cX5_layPlay 215 = .ok (.getfield 169, 3) := by decide +kernel
theorem dX5_layPlay_218 : decode cX5_layPlay 218 = .ok (.putfield 169, 3) := by decide +kernel
theorem dX5_layPlay_221 : decode cX5_layPlay 221 = .ok (.iinc 4 1, 3) := by decide +kernel
theorem dX5_layPlay_224 : decode cX5_layPlay 224 = .ok (.goto (-183), 3) := by decide +kernel
theorem dX5_layPlay_227 : decode cX5_layPlay 227 = .ok (.aload_n 0, 1) := by decide +kernel
theorem dX5_layPlay_228 : decode cX5_layPlay 228 = .ok (.getfield 25, 3) := by decide +kernel
theorem dX5_layPlay_231 : decode cX5_layPlay 231 = .ok (.aload_n 0, 1) := by decide +kernel
theorem dX5_layPlay_232 : decode cX5_layPlay 232 = .ok (.getfield 22, 3) := by decide +kernel
theorem dX5_layPlay_235 : decode cX5_layPlay 235 = .ok (.invokestatic 172, 3) := by decide +kernel
theorem dX5_layPlay_238 : decode cX5_layPlay 238 = .ok (.iinc 2 1, 3) := by decide +kernel
theorem dX5_layPlay_241 : decode cX5_layPlay 241 = .ok (.goto (-214), 3) := by decide +kernel
theorem dX5_layPlay_244 : decode cX5_layPlay 244 = .ok (.aload_n 0, 1) := by decide +kernel
theorem dX5_layPlay_245 : decode cX5_layPlay 245 = .ok (.getfield 22, 3) := by decide +kernel
theorem dX5_layPlay_248 : decode cX5_layPlay 248 = .ok (.aload_n 0, 1) := by decide +kernel
theorem dX5_layPlay_249 : decode cX5_layPlay 249 = .ok (.getfield 59, 3) := by decide +kernel
theorem dX5_layPlay_252 : decode cX5_layPlay 252 = .ok (.iaload, 1) := by decide +kernel
theorem dX5_layPlay_253 : decode cX5_layPlay 253 = .ok (.ireturn, 1) := by decide +kernel
set_option maxRecDepth 20000 in
theorem ggX5_playOf_X5_layPlay : GoodIn wsX5_playOf wsX5_layPlay := goodIn_r _ [6, 7, 8, 9, 10, 11, 1, 12, 13, 14, 5, 15, 16, 17, 18, 19, 20, 21, 22, 23, 24, 25, 26, 27, 28, 29, 30, 31, 32, 33, 34, 35, 36, 37, 38, 39, 40, 41, 42, 43, 44, 45, 46, 47, 48, 49, 50, 51, 52, 53, 54, 55, 56, 57, 58, 59, 60, 61, 62, 63, 64, 65, 66, 67, 68, 69] (by decide +kernel) (by decide +kernel)
set_option maxRecDepth 20000 in
theorem gX5_playOf_X5_layPlay : GoodIn wsX5_playOf (wsV RX5 176 RX5 yX5_layPlay wsX5_layPlay) := goodIn_app (goodIn_of _ (by decide +kernel)) ggX5_playOf_X5_layPlay
theorem dX5_playOf_0 : decode cX5_playOf 0 = .ok (.aload_n 0, 1) := by decide +kernel
theorem dX5_playOf_1 : decode cX5_playOf 1 = .ok (.iload_n 1, 1) := by decide +kernel
theorem dX5_playOf_2 : decode cX5_playOf 2 = .ok (.invokevirtual 176, 3) := by decide +kernel
theorem dX5_playOf_5 : decode cX5_playOf 5 = .ok (.istore_n 3, 1) := by decide +kernel
theorem dX5_playOf_6 : decode cX5_playOf 6 = .ok (.iload_n 2, 1) := by decide +kernel
theorem dX5_playOf_7 : decode cX5_playOf 7 = .ok (.ifCond .ne 7, 3) := by decide +kernel
theorem dX5_playOf_10 : decode cX5_playOf 10 = .ok (.iload_n 3, 1) := by decide +kernel
theorem dX5_playOf_11 : decode cX5_playOf 11 = .ok (.goto 7, 3) := by decide +kernel
theorem dX5_playOf_14 : decode cX5_playOf 14 = .ok (.aload_n 0, 1) := by decide +kernel
theorem dX5_playOf_15 : decode cX5_playOf 15 = .ok (.getfield 169, 3) := by decide +kernel
theorem dX5_playOf_18 : decode cX5_playOf 18 = .ok (.ireturn, 1) := by decide +kernel
set_option maxRecDepth 20000 in
theorem ggX5_play_X5_in : GoodIn wsX5_play wsX5_in := goodIn_r _ [5] (by decide +kernel) (by decide +kernel)
set_option maxRecDepth 20000 in
theorem gX5_play_X5_in : GoodIn wsX5_play (va_wsS RX5 64 yX5_in wsX5_in) := goodIn_app (goodIn_of _ (by decide +kernel)) ggX5_play_X5_in
set_option maxRecDepth 20000 in
theorem ggX5_play_X5_lacks : GoodIn wsX5_play wsX5_lacks := goodIn_r _ [9, 10, 44, 45, 46, 47, 48, 49, 50, 51, 52, 53, 54, 55, 56, 57, 58, 59, 60, 61, 62, 63, 64, 65, 66, 67, 68, 69, 70, 71, 72, 73, 74, 75, 76, 77, 78] (by decide +kernel) (by decide +kernel)
set_option maxRecDepth 20000 in
theorem gX5_play_X5_lacks : GoodIn wsX5_play (wsV RX5 141 RX5 yX5_lacks wsX5_lacks) := goodIn_app (goodIn_of _ (by decide +kernel)) ggX5_play_X5_lacks
set_option maxRecDepth 20000 in
theorem ggX5_play_X5_playOf : GoodIn wsX5_play wsX5_playOf := goodIn_r _ [14, 15, 16, 17, 18, 4, 19, 20, 10, 21, 22, 23, 24, 25, 26, 27, 28, 29, 30, 31, 2, 3, 5, 32, 33, 34, 35, 36, 37, 38, 39, 40, 41, 42, 43, 44, 45, 46, 47, 48, 49, 50, 51, 52, 53, 54, 55, 56, 57, 58, 59, 60, 61, 62, 63, 64, 65, 66, 67, 68, 69, 70, 71, 72, 73, 74, 75, 76, 77, 78] (by decide +kernel) (by decide +kernel)
set_option maxRecDepth 20000 in
theorem gX5_play_X5_playOf : GoodIn wsX5_play (wsV RX5 181 RX5 yX5_playOf wsX5_playOf) := goodIn_app (goodIn_of _ (by decide +kernel)) ggX5_play_X5_playOf
theorem dX5_play_0 : decode cX5_play 0 = .ok (.iload_n 1, 1) := by decide +kernel
theorem dX5_play_1 : decode cX5_play 1 = .ok (.i2l, 1) := by decide +kernel
theorem dX5_play_2 : decode cX5_play 2 = .ok (.lconst 1, 1) := by decide +kernel
theorem dX5_play_3 : decode cX5_play 3 = .ok (.ldc2_w 179, 3) := by decide +kernel
theorem dX5_play_6 : decode cX5_play 6 = .ok (.invokestatic 64, 3) := by decide +kernel
theorem dX5_play_9 : decode cX5_play 9 = .ok (.ifCond .eq 13, 3) := by decide +kernel
theorem dX5_play_12 : decode cX5_play 12 = .ok (.iload_n 2, 1) := by decide +kernel
theorem dX5_play_13 : decode cX5_play 13 = .ok (.i2l, 1) := by decide +kernel
theorem dX5_play_14 : decode cX5_play 14 = .ok (.lconst 0, 1) := by decide +kernel
theorem dX5_play_15 : decode cX5_play 15 = .ok (.lconst 1, 1) := by decide +kernel
theorem dX5_play_16 : decode cX5_play 16 = .ok (.invokestatic 64, 3) := by decide +kernel
theorem dX5_play_19 : decode cX5_play 19 = .ok (.ifCond .ne 6, 3) := by decide +kernel
theorem dX5_play_22 : decode cX5_play 22 = .ok (.bipush (-102), 2) := by decide +kernel
theorem dX5_play_24 : decode cX5_play 24 = .ok (.ireturn, 1) := by decide +kernel
theorem dX5_play_25 : decode cX5_play 25 = .ok (.aload_n 0, 1) := by decide +kernel
theorem dX5_play_26 : decode cX5_play 26 = .ok (.invokevirtual 141, 3) := by decide +kernel
theorem dX5_play_29 : decode cX5_play 29 = .ok (.ifCond .eq 8, 3) := by decide +kernel
theorem dX5_play_32 : decode cX5_play 32 = .ok (.bipush (-103), 2) := by decide +kernel
theorem dX5_play_34 : decode cX5_play 34 = .ok (.goto 9, 3) := by decide +kernel
theorem dX5_play_37 : decode cX5_play 37 = .ok (.aload_n 0, 1) := by decide +kernel
theorem dX5_play_38 : decode cX5_play 38 = .ok (.iload_n 1, 1) := by decide +kernel
theorem dX5_play_39 : decode cX5_play 39 = .ok (.iload_n 2, 1) := by decide +kernel
theorem dX5_play_40 : decode cX5_play 40 = .ok (.invokevirtual 181, 3) := by decide +kernel
theorem dX5_play_43 : decode cX5_play 43 = .ok (.ireturn, 1) := by decide +kernel
set_option maxRecDepth 20000 in
theorem ggX5_hear_X5_in : GoodIn wsX5_hear wsX5_in := goodIn_r _ [7] (by decide +kernel) (by decide +kernel)
set_option maxRecDepth 20000 in
theorem gX5_hear_X5_in : GoodIn wsX5_hear (va_wsS RX5 64 yX5_in wsX5_in) := goodIn_app (goodIn_of _ (by decide +kernel)) ggX5_hear_X5_in
set_option maxRecDepth 20000 in
theorem ggX5_hear_X5_isSeat : GoodIn wsX5_hear wsX5_isSeat := goodIn_r _ [11, 12, 4, 5, 6, 7, 13, 14, 15, 16, 17, 18, 19, 20, 21, 22, 23, 24, 25, 26, 27, 28, 29, 30, 31, 32, 33, 34, 35, 36, 37, 38, 39, 40, 41, 42, 43, 44, 45, 46, 47] (by decide +kernel) (by decide +kernel)
set_option maxRecDepth 20000 in
theorem gX5_hear_X5_isSeat : GoodIn wsX5_hear (wsV RX5 155 RX5 yX5_isSeat wsX5_isSeat) := goodIn_app (goodIn_of _ (by decide +kernel)) ggX5_hear_X5_isSeat
theorem dX5_hear_0 : decode cX5_hear 0 = .ok (.iload_n 1, 1) := by decide +kernel
theorem dX5_hear_1 : decode cX5_hear 1 = .ok (.i2l, 1) := by decide +kernel
theorem dX5_hear_2 : decode cX5_hear 2 = .ok (.lconst 0, 1) := by decide +kernel
theorem dX5_hear_3 : decode cX5_hear 3 = .ok (.ldc2_w 184, 3) := by decide +kernel
theorem dX5_hear_6 : decode cX5_hear 6 = .ok (.invokestatic 64, 3) := by decide +kernel
theorem dX5_hear_9 : decode cX5_hear 9 = .ok (.ifCond .ne 6, 3) := by decide +kernel
theorem dX5_hear_12 : decode cX5_hear 12 = .ok (.bipush (-102), 2) := by decide +kernel
theorem dX5_hear_14 : decode cX5_hear 14 = .ok (.ireturn, 1) := by decide +kernel
theorem dX5_hear_15 : decode cX5_hear 15 = .ok (.iload_n 2, 1) := by decide +kernel
theorem dX5_hear_16 : decode cX5_hear 16 = .ok (.iconst (-1), 1) := by decide +kernel
theorem dX5_hear_17 : decode cX5_hear 17 = .ok (.if_icmp .eq 14, 3) := by decide +kernel
theorem dX5_hear_20 : decode cX5_hear 20 = .ok (.aload_n 0, 1) := by decide +kernel
theorem dX5_hear_21 : decode cX5_hear 21 = .ok (.iload_n 2, 1) := by decide +kernel
theorem dX5_hear_22 : decode cX5_hear 22 = .ok (.invokevirtual 155, 3) := by decide +kernel
theorem dX5_hear_25 : decode cX5_hear 25 = .ok (.ifCond .ne 6, 3) := by decide +kernel
theorem dX5_hear_28 : decode cX5_hear 28 = .ok (.bipush (-101), 2) := by decide +kernel
theorem dX5_hear_30 : decode cX5_hear 30 = .ok (.ireturn, 1) := by decide +kernel
theorem dX5_hear_31 : decode cX5_hear 31 = .ok (.aload_n 0, 1) := by decide +kernel
theorem dX5_hear_32 : decode cX5_hear 32 = .ok (.getfield 118, 3) := by decide +kernel
theorem dX5_hear_35 : decode cX5_hear 35 = .ok (.bipush 8, 2) := by decide +kernel
theorem dX5_hear_37 : decode cX5_hear 37 = .ok (.if_icmp .ne 6, 3) := by decide +kernel
theorem dX5_hear_40 : decode cX5_hear 40 = .ok (.bipush (-104), 2) := by decide +kernel
theorem dX5_hear_42 : decode cX5_hear 42 = .ok (.ireturn, 1) := by decide +kernel
theorem dX5_hear_43 : decode cX5_hear 43 = .ok (.aload_n 0, 1) := by decide +kernel
theorem dX5_hear_44 : decode cX5_hear 44 = .ok (.getfield 28, 3) := by decide +kernel
theorem dX5_hear_47 : decode cX5_hear 47 = .ok (.iconst 2, 1) := by decide +kernel
theorem dX5_hear_48 : decode cX5_hear 48 = .ok (.aload_n 0, 1) := by decide +kernel
theorem dX5_hear_49 : decode cX5_hear 49 = .ok (.getfield 118, 3) := by decide +kernel
theorem dX5_hear_52 : decode cX5_hear 52 = .ok (.imul, 1) := by decide +kernel
theorem dX5_hear_53 : decode cX5_hear 53 = .ok (.iload_n 1, 1) := by decide +kernel
theorem dX5_hear_54 : decode cX5_hear 54 = .ok (.iastore, 1) := by decide +kernel
theorem dX5_hear_55 : decode cX5_hear 55 = .ok (.aload_n 0, 1) := by decide +kernel
theorem dX5_hear_56 : decode cX5_hear 56 = .ok (.getfield 28, 3) := by decide +kernel
theorem dX5_hear_59 : decode cX5_hear 59 = .ok (.iconst 2, 1) := by decide +kernel
theorem dX5_hear_60 : decode cX5_hear 60 = .ok (.aload_n 0, 1) := by decide +kernel
theorem dX5_hear_61 : decode cX5_hear 61 = .ok (.getfield 118, 3) := by decide +kernel
theorem dX5_hear_64 : decode cX5_hear 64 = .ok (.imul, 1) := by decide +kernel
theorem dX5_hear_65 : decode cX5_hear 65 = .ok (.iconst 1, 1) := by decide +kernel
theorem dX5_hear_66 : decode cX5_hear 66 = .ok (.iadd, 1) := by decide +kernel
theorem dX5_hear_67 : decode cX5_hear 67 = .ok (.iload_n 2, 1) := by decide +kernel
theorem dX5_hear_68 : decode cX5_hear 68 = .ok (.iconst (-1), 1) := by decide +kernel
theorem dX5_hear_69 : decode cX5_hear 69 = .ok (.if_icmp .ne 8, 3) := by decide +kernel
theorem dX5_hear_72 : decode cX5_hear 72 = .ok (.bipush 7, 2) := by decide +kernel
theorem dX5_hear_74 : decode cX5_hear 74 = .ok (.goto 4, 3) := by decide +kernel
theorem dX5_hear_77 : decode cX5_hear 77 = .ok (.iload_n 2, 1) := by decide +kernel
theorem dX5_hear_78 : decode cX5_hear 78 = .ok (.iastore, 1) := by decide +kernel
theorem dX5_hear_79 : decode cX5_hear 79 = .ok (.aload_n 0, 1) := by decide +kernel
theorem dX5_hear_80 : decode cX5_hear 80 = .ok (.dup, 1) := by decide +kernel
theorem dX5_hear_81 : decode cX5_hear 81 = .ok (.getfield 118, 3) := by decide +kernel
theorem dX5_hear_84 : decode cX5_hear 84 = .ok (.iconst 1, 1) := by decide +kernel
theorem dX5_hear_85 : decode cX5_hear 85 = .ok (.iadd, 1) := by decide +kernel
theorem dX5_hear_86 : decode cX5_hear 86 = .ok (.putfield 118, 3) := by decide +kernel
theorem dX5_hear_89 : decode cX5_hear 89 = .ok (.aload_n 0, 1) := by decide +kernel
theorem dX5_hear_90 : decode cX5_hear 90 = .ok (.getfield 118, 3) := by decide +kernel
theorem dX5_hear_93 : decode cX5_hear 93 = .ok (.ireturn, 1) := by decide +kernel
theorem dX5_forget_0 : decode cX5_forget 0 = .ok (.aload_n 0, 1) := by decide +kernel
theorem dX5_forget_1 : decode cX5_forget 1 = .ok (.getfield 118, 3) := by decide +kernel
theorem dX5_forget_4 : decode cX5_forget 4 = .ok (.istore_n 1, 1) := by decide +kernel
theorem dX5_forget_5 : decode cX5_forget 5 = .ok (.aload_n 0, 1) := by decide +kernel
theorem dX5_forget_6 : decode cX5_forget 6 = .ok (.iconst 0, 1) := by decide +kernel
theorem dX5_forget_7 : decode cX5_forget 7 = .ok (.putfield 118, 3) := by decide +kernel
theorem dX5_forget_10 : decode cX5_forget 10 = .ok (.iload_n 1, 1) := by decide +kernel
theorem dX5_forget_11 : decode cX5_forget 11 = .ok (.ireturn, 1) := by decide +kernel
theorem dX5_isHeard_0 : decode cX5_isHeard 0 = .ok (.iconst 1, 1) := by decide +kernel
theorem dX5_isHeard_1 : decode cX5_isHeard 1 = .ok (.istore_n 3, 1) := by decide +kernel
theorem dX5_isHeard_2 : decode cX5_isHeard 2 = .ok (.iconst 0, 1) := by decide +kernel
theorem dX5_isHeard_3 : decode cX5_isHeard 3 = .ok (.istore 4, 2) := by decide +kernel
theorem dX5_isHeard_5 : decode cX5_isHeard 5 = .ok (.iload 4, 2) := by decide +kernel
theorem dX5_isHeard_7 : decode cX5_isHeard 7 = .ok (.aload_n 0, 1) := by decide +kernel
theorem dX5_isHeard_8 : decode cX5_isHeard 8 = .ok (.getfield 118, 3) := by decide +kernel
theorem dX5_isHeard_11 : decode cX5_isHeard 11 = .ok (.if_icmp .ge 50, 3) := by decide +kernel
theorem dX5_isHeard_14 : decode cX5_isHeard 14 = .ok (.iload_n 3, 1) := by decide +kernel
theorem dX5_isHeard_15 : decode cX5_isHeard 15 = .ok (.ifCond .eq 38, 3) := by decide +kernel
theorem dX5_isHeard_18 : decode cX5_isHeard 18 = .ok (.aload_n 0, 1) := by decide +kernel
theorem dX5_isHeard_19 : decode cX5_isHeard 19 = .ok (.getfield 28, 3) := by decide +kernel
theorem dX5_isHeard_22 : decode cX5_isHeard 22 = .ok (.iconst 2, 1) := by decide +kernel
theorem dX5_isHeard_23 : decode cX5_isHeard 23 = .ok (.iload 4, 2) := by decide +kernel
theorem dX5_isHeard_25 : decode cX5_isHeard 25 = .ok (.imul, 1) := by decide +kernel
theorem dX5_isHeard_26 : decode cX5_isHeard 26 = .ok (.iaload, 1) := by decide +kernel
theorem dX5_isHeard_27 : decode cX5_isHeard 27 = .ok (.iload_n 1, 1) := by decide +kernel
theorem dX5_isHeard_28 : decode cX5_isHeard 28 = .ok (.if_icmp .ne 21, 3) := by decide +kernel
theorem dX5_isHeard_31 : decode cX5_isHeard 31 = .ok (.aload_n 0, 1) := by decide +kernel
theorem dX5_isHeard_32 : decode cX5_isHeard 32 = .ok (.getfield 28, 3) := by decide +kernel
theorem dX5_isHeard_35 : decode cX5_isHeard 35 = .ok (.iconst 2, 1) := by decide +kernel
theorem dX5_isHeard_36 : decode cX5_isHeard 36 = .ok (.iload 4, 2) := by decide +kernel
theorem dX5_isHeard_38 : decode cX5_isHeard 38 = .ok (.imul, 1) := by decide +kernel
theorem dX5_isHeard_39 : decode cX5_isHeard 39 = .ok (.iconst 1, 1) := by decide +kernel
theorem dX5_isHeard_40 : decode cX5_isHeard 40 = .ok (.iadd, 1) := by decide +kernel
theorem dX5_isHeard_41 : decode cX5_isHeard 41 = .ok (.iaload, 1) := by decide +kernel
theorem dX5_isHeard_42 : decode cX5_isHeard 42 = .ok (.iload_n 2, 1) := by decide +kernel
theorem dX5_isHeard_43 : decode cX5_isHeard 43 = .ok (.bipush 8, 2) := by decide +kernel
theorem dX5_isHeard_45 : decode cX5_isHeard 45 = .ok (.irem, 1) := by decide +kernel
theorem dX5_isHeard_46 : decode cX5_isHeard 46 = .ok (.if_icmp .ne 7, 3) := by decide +kernel
theorem dX5_isHeard_49 : decode cX5_isHeard 49 = .ok (.iconst 1, 1) := by decide +kernel
theorem dX5_isHeard_50 : decode cX5_isHeard 50 = .ok (.goto 4, 3) := by decide +kernel
theorem dX5_isHeard_53 : decode cX5_isHeard 53 = .ok (.iconst 0, 1) := by decide +kernel
theorem dX5_isHeard_54 : decode cX5_isHeard 54 = .ok (.istore_n 3, 1) := by decide +kernel
theorem dX5_isHeard_55 : decode cX5_isHeard 55 = .ok (.iinc 4 1, 3) := by decide +kernel
theorem dX5_isHeard_58 : decode cX5_isHeard 58 = .ok (.goto (-53), 3) := by decide +kernel
theorem dX5_isHeard_61 : decode cX5_isHeard 61 = .ok (.iload_n 3, 1) := by decide +kernel
theorem dX5_isHeard_62 : decode cX5_isHeard 62 = .ok (.ireturn, 1) := by decide +kernel
set_option maxRecDepth 20000 in
theorem ggX5_layWays_X5_isHeard : GoodIn wsX5_layWays wsX5_isHeard := goodIn_r _ [9, 10, 11, 22, 23, 24, 25, 26, 27, 28, 29, 30, 31, 32, 33, 34, 35, 36, 37, 38, 39, 40, 41, 42, 43, 44, 45, 46, 47, 48, 49, 50, 51, 52, 53, 54, 55, 56] (by decide +kernel) (by decide +kernel)
set_option maxRecDepth 20000 in
theorem gX5_layWays_X5_isHeard : GoodIn wsX5_layWays (wsV RX5 186 RX5 yX5_isHeard wsX5_isHeard) := goodIn_app (goodIn_of _ (by decide +kernel)) ggX5_layWays_X5_isHeard
set_option maxRecDepth 20000 in
theorem ggX5_layWays_X5_counts : GoodIn wsX5_layWays wsX5_counts := goodIn_r _ [15, 16, 17, 22, 23, 24, 25, 26, 27, 28, 29, 30, 31, 32, 33, 34, 35, 36, 37, 38, 39, 40, 41, 42, 43, 44, 45, 46, 47, 48, 49, 50, 51, 52, 53, 54, 55, 56] (by decide +kernel) (by decide +kernel)
set_option maxRecDepth 20000 in
theorem gX5_layWays_X5_counts : GoodIn wsX5_layWays (wsV RX5 124 RX5 yX5_counts wsX5_counts) := goodIn_app (goodIn_of _ (by decide +kernel)) ggX5_layWays_X5_counts
set_option maxRecDepth 20000 in
theorem ggX5_layWays_X5_behind : GoodIn wsX5_layWays wsX5_behind := goodIn_r _ [21, 16, 4, 22, 23, 24, 25, 26, 27, 28, 29, 30, 31, 32, 33, 34, 35, 36, 37, 38, 39, 40, 41, 42, 43, 44, 45, 46, 47, 48, 49, 50, 51, 52, 53, 54, 55, 56] (by decide +kernel) (by decide +kernel)
set_option maxRecDepth 20000 in
theorem gX5_layWays_X5_behind : GoodIn wsX5_layWays (wsV RX5 134 RX5 yX5_behind wsX5_behind) := goodIn_app (goodIn_of _ (by decide +kernel)) ggX5_layWays_X5_behind
theorem dX5_layWays_0 : decode cX5_layWays 0 = .ok (.iconst 0, 1) := by decide +kernel
theorem dX5_layWays_1 : decode cX5_layWays 1 = .ok (.istore_n 2, 1) := by decide +kernel
theorem dX5_layWays_2 : decode cX5_layWays 2 = .ok (.iload_n 2, 1) := by decide +kernel
theorem dX5_layWays_3 : decode cX5_layWays 3 = .ok (.sipush 448, 3) := by decide +kernel
theorem dX5_layWays_6 : decode cX5_layWays 6 = .ok (.if_icmp .ge 23, 3) := by decide +kernel
theorem dX5_layWays_9 : decode cX5_layWays 9 = .ok (.aload_n 0, 1) := by decide +kernel
theorem dX5_layWays_10 : decode cX5_layWays 10 = .ok (.getfield 31, 3) := by decide +kernel
theorem dX5_layWays_13 : decode cX5_layWays 13 = .ok (.iload_n 2, 1) := by decide +kernel
theorem dX5_layWays_14 : decode cX5_layWays 14 = .ok (.iconst 0, 1) := by decide +kernel
theorem dX5_layWays_15 : decode cX5_layWays 15 = .ok (.iastore, 1) := by decide +kernel
theorem dX5_layWays_16 : decode cX5_layWays 16 = .ok (.aload_n 0, 1) := by decide +kernel
theorem dX5_layWays_17 : decode cX5_layWays 17 = .ok (.getfield 34, 3) := by decide +kernel
theorem dX5_layWays_20 : decode cX5_layWays 20 = .ok (.iload_n 2, 1) := by decide +kernel
theorem dX5_layWays_21 : decode cX5_layWays 21 = .ok (.iconst 0, 1) := by decide +kernel
theorem dX5_layWays_22 : decode cX5_layWays 22 = .ok (.iastore, 1) := by decide +kernel
theorem dX5_layWays_23 : decode cX5_layWays 23 = .ok (.iinc 2 1, 3) := by decide +kernel
theorem dX5_layWays_26 : decode cX5_layWays 26 = .ok (.goto (-24), 3) := by decide +kernel
theorem dX5_layWays_29 : decode cX5_layWays 29 = .ok (.aload_n 0, 1) := by decide +kernel
theorem dX5_layWays_30 : decode cX5_layWays 30 = .ok (.getfield 31, 3) := by decide +kernel
theorem dX5_layWays_33 : decode cX5_layWays 33 = .ok (.aload_n 0, 1) := by decide +kernel
theorem dX5_layWays_34 : decode cX5_layWays 34 = .ok (.getfield 59, 3) := by decide +kernel
theorem dX5_layWays_37 : decode cX5_layWays 37 = .ok (.aload_n 0, 1) := by decide +kernel
theorem dX5_layWays_38 : decode cX5_layWays 38 = .ok (.iconst 0, 1) := by decide +kernel
theorem dX5_layWays_39 : decode cX5_layWays 39 = .ok (.aload_n 0, 1) := by decide +kernel
theorem dX5_layWays_40 : decode cX5_layWays 40 = .ok (.getfield 59, 3) := by decide +kernel
theorem dX5_layWays_43 : decode cX5_layWays 43 = .ok (.invokevirtual 186, 3) := by decide +kernel
theorem dX5_layWays_46 : decode cX5_layWays 46 = .ok (.ifCond .eq 7, 3) := by decide +kernel
theorem dX5_layWays_49 : decode cX5_layWays 49 = .ok (.iconst 1, 1) := by decide +kernel
theorem dX5_layWays_50 : decode cX5_layWays 50 = .ok (.goto 4, 3) := by decide +kernel
theorem dX5_layWays_53 : decode cX5_layWays 53 = .ok (.iconst 0, 1) := by decide +kernel
theorem dX5_layWays_54 : decode cX5_layWays 54 = .ok (.iastore, 1) := by decide +kernel
theorem dX5_layWays_55 : decode cX5_layWays 55 = .ok (.iconst 0, 1) := by decide +kernel
theorem dX5_layWays_56 : decode cX5_layWays 56 = .ok (.istore_n 2, 1) := by decide +kernel
theorem dX5_layWays_57 : decode cX5_layWays 57 = .ok (.iload_n 2, 1) := by decide +kernel
theorem dX5_layWays_58 : decode cX5_layWays 58 = .ok (.iload_n 1, 1) := by decide +kernel
theorem dX5_layWays_59 : decode cX5_layWays 59 = .ok (.if_icmp .ge 125, 3) := by decide +kernel
theorem dX5_layWays_62 : decode cX5_layWays 62 = .ok (.iconst 0, 1) := by decide +kernel
theorem dX5_layWays_63 : decode cX5_layWays 63 = .ok (.istore_n 3, 1) := by decide +kernel
theorem dX5_layWays_64 : decode cX5_layWays 64 = .ok (.iload_n 3, 1) := by decide +kernel
theorem dX5_layWays_65 : decode cX5_layWays 65 = .ok (.bipush 64, 2) := by decide +kernel
theorem dX5_layWays_67 : decode cX5_layWays 67 = .ok (.if_icmp .ge 111, 3) := by decide +kernel
theorem dX5_layWays_70 : decode cX5_layWays 70 = .ok (.iconst 0, 1) := by decide +kernel
theorem dX5_layWays_71 : decode cX5_layWays 71 = .ok (.istore 4, 2) := by decide +kernel
theorem dX5_layWays_73 : decode cX5_layWays 73 = .ok (.iload 4, 2) := by decide +kernel
theorem dX5_layWays_75 : decode cX5_layWays 75 = .ok (.aload_n 0, 1) := by decide +kernel
theorem dX5_layWays_76 : decode cX5_layWays 76 = .ok (.getfield 94, 3) := by decide +kernel
theorem dX5_layWays_79 : decode cX5_layWays 79 = .ok (.if_icmp .ge 93, 3) := by decide +kernel
theorem dX5_layWays_82 : decode cX5_layWays 82 = .ok (.aload_n 0, 1) := by decide +kernel
theorem dX5_layWays_83 : decode cX5_layWays 83 = .ok (.getfield 31, 3) := by decide +kernel
theorem dX5_layWays_86 : decode cX5_layWays 86 = .ok (.bipush 64, 2) := by decide +kernel
theorem dX5_layWays_88 : decode cX5_layWays 88 = .ok (.iload_n 2, 1) := by decide +kernel
theorem dX5_layWays_89 : decode cX5_layWays 89 = .ok (.imul, 1) := by decide +kernel
theorem dX5_layWays_90 : decode cX5_layWays 90 = .ok (.iload_n 3, 1) := by decide +kernel
theorem dX5_layWays_91 : decode cX5_layWays 91 = .ok (.iadd, 1) := by decide +kernel
theorem dX5_layWays_92 : decode cX5_layWays 92 = .ok (.iaload, 1) := by decide +kernel
theorem dX5_layWays_93 : decode cX5_layWays 93 = .ok (.ifCond .le 79, 3) := by decide +kernel
theorem dX5_layWays_96 : decode cX5_layWays 96 = .ok (.aload_n 0, 1) := by decide +kernel
theorem dX5_layWays_97 : decode cX5_layWays 97 = .ok (.iload 4, 2) := by decide +kernel
theorem dX5_layWays_99 : decode cX5_layWays 99 = .ok (.iload_n 3, 1) := by decide +kernel
theorem dX5_layWays_100 : decode cX5_layWays 100 = .ok (.invokevirtual 124, 3) := by decide +kernel
theorem dX5_layWays_103 : decode cX5_layWays 103 = .ok (.ifCond .eq 63, 3) := by decide +kernel
theorem dX5_layWays_106 : decode cX5_layWays 106 = .ok (.iload_n 3, 1) := by decide +kernel
theorem dX5_layWays_107 : decode cX5_layWays 107 = .ok (.bipush 8, 2) := by decide +kernel
theorem dX5_layWays_109 : decode cX5_layWays 109 = .ok (.idiv, 1) := by decide +kernel
theorem dX5_layWays_110 : decode cX5_layWays 110 = .ok (.iload 4, 2) := by decide +kernel
theorem dX5_layWays_112 : decode cX5_layWays 112 = .ok (.if_icmp .eq 54, 3) := by decide +kernel
theorem dX5_layWays_115 : decode cX5_layWays 115 = .ok (.aload_n 0, 1) := by decide +kernel
theorem dX5_layWays_116 : decode cX5_layWays 116 = .ok (.iload_n 2, 1) := by decide +kernel
theorem dX5_layWays_117 : decode cX5_layWays 117 = .ok (.iconst 1, 1) := by decide +kernel
theorem dX5_layWays_118 : decode cX5_layWays 118 = .ok (.iadd, 1) := by decide +kernel
theorem dX5_layWays_119 : decode cX5_layWays 119 = .ok (.aload_n 0, 1) := by decide +kernel
theorem dX5_layWays_120 : decode cX5_layWays 120 = .ok (.iload 4, 2) := by decide +kernel
theorem dX5_layWays_122 : decode cX5_layWays 122 = .ok (.iload_n 3, 1) := by decide +kernel
theorem dX5_layWays_123 : decode cX5_layWays 123 = .ok (.invokevirtual 134, 3) := by decide +kernel
theorem dX5_layWays_126 : decode cX5_layWays 126 = .ok (.invokevirtual 186, 3) := by decide +kernel
theorem dX5_layWays_129 : decode cX5_layWays 129 = .ok (.ifCond .eq 37, 3) := by decide +kernel
theorem dX5_layWays_132 : decode cX5_layWays 132 = .ok (.aload_n 0, 1) := by decide +kernel
theorem dX5_layWays_133 : decode cX5_layWays 133 = .ok (.getfield 31, 3) := by decide +kernel
theorem dX5_layWays_136 : decode cX5_layWays 136 = .ok (.bipush 64, 2) := by decide +kernel
theorem dX5_layWays_138 : decode cX5_layWays 138 = .ok (.iload_n 2, 1) := by decide +kernel
theorem dX5_layWays_139 : decode cX5_layWays 139 = .ok (.imul, 1) := by decide +kernel
theorem dX5_layWays_140 : decode cX5_layWays 140 = .ok (.bipush 64, 2) := by decide +kernel
theorem dX5_layWays_142 : decode cX5_layWays 142 = .ok (.iadd, 1) := by decide +kernel
theorem dX5_layWays_143 : decode cX5_layWays 143 = .ok (.aload_n 0, 1) := by decide +kernel
theorem dX5_layWays_144 : decode cX5_layWays 144 = .ok (.iload 4, 2) := by decide +kernel
theorem dX5_layWays_146 : decode cX5_layWays 146 = .ok (.iload_n 3, 1) := by decide +kernel
theorem dX5_layWays_147 : decode cX5_layWays 147 = .ok (.invokevirtual 134, 3) := by decide +kernel
theorem dX5_layWays_150 : decode cX5_layWays 150 = .ok (.iadd, 1) := by decide +kernel
theorem dX5_layWays_151 : decode cX5_layWays 151 = .ok (.dup2, 1) := by decide +kernel
theorem dX5_layWays_152 : decode cX5_layWays 152 = .ok (.iaload, 1) := by decide +kernel
theorem dX5_layWays_153 : decode cX5_layWays 153 = .ok (.aload_n 0, 1) := by decide +kernel
theorem dX5_layWays_154 : decode cX5_layWays 154 = .ok (.getfield 31, 3) := by decide +kernel
theorem dX5_layWays_157 : decode cX5_layWays 157 = .ok (.bipush 64, 2) := by decide +kernel
theorem dX5_layWays_159 : decode cX5_layWays 159 = .ok (.iload_n 2, 1) := by decide +kernel
theorem dX5_layWays_160 : decode cX5_layWays 160 = .ok (.imul, 1) := by decide +kernel
theorem dX5_layWays_161 : decode cX5_layWays 161 = .ok (.iload_n 3, 1) := by decide +kernel
theorem dX5_layWays_162 : decode cX5_layWays 162 = .ok (.iadd, 1) := by decide +kernel
theorem dX5_layWays_163 : decode cX5_layWays 163 = .ok (.iaload, 1) := by decide +kernel
theorem dX5_layWays_164 : decode cX5_layWays 164 = .ok (.iadd, 1) := by decide +kernel
theorem dX5_layWays_165 : decode cX5_layWays 165 = .ok (.iastore, 1) := by decide +kernel
theorem dX5_layWays_166 : decode cX5_layWays 166 = .ok (.iinc 4 1, 3) := by decide +kernel
theorem dX5_layWays_169 : decode cX5_layWays 169 = .ok (.goto (-96), 3) := by decide +kernel
theorem dX5_layWays_172 : decode cX5_layWays 172 = .ok (.iinc 3 1, 3) := by decide +kernel
theorem dX5_layWays_175 : decode cX5_layWays 175 = .ok (.goto (-111), 3) := by decide +kernel
theorem dX5_layWays_178 : decode cX5_layWays 178 = .ok (.iinc 2 1, 3) := by decide +kernel
theorem dX5_layWays_181 : decode cX5_layWays 181 = .ok (.goto (-124), 3) := by decide +kernel
theorem dX5_layWays_184 : decode cX5_layWays 184 = .ok (.iconst 0, 1) := by decide +kernel
theorem dX5_layWays_185 : decode cX5_layWays 185 = .ok (.istore_n 2, 1) := by decide +kernel
theorem dX5_layWays_186 : decode cX5_layWays 186 = .ok (.iload_n 2, 1) := by decide +kernel
theorem dX5_layWays_187 : decode cX5_layWays 187 = .ok (.bipush 64, 2) := by decide +kernel
theorem dX5_layWays_189 : decode cX5_layWays 189 = .ok (.if_icmp .ge 21, 3) := by decide +kernel
theorem dX5_layWays_192 : decode cX5_layWays 192 = .ok (.aload_n 0, 1) := by decide +kernel
theorem dX5_layWays_193 : decode cX5_layWays 193 = .ok (.getfield 34, 3) := by decide +kernel
theorem dX5_layWays_196 : decode cX5_layWays 196 = .ok (.bipush 64, 2) := by decide +kernel
theorem dX5_layWays_198 : decode cX5_layWays 198 = .ok (.iload_n 1, 1) := by decide +kernel
theorem dX5_layWays_199 : decode cX5_layWays 199 = .ok (.imul, 1) := by decide +kernel
theorem dX5_layWays_200 : decode cX5_layWays 200 = .ok (.iload_n 2, 1) := by decide +kernel
theorem dX5_layWays_201 : decode cX5_layWays 201 = .ok (.iadd, 1) := by decide +kernel
theorem dX5_layWays_202 : decode cX5_layWays 202 = .ok (.iconst 1, 1) := by decide +kernel
theorem dX5_layWays_203 : decode cX5_layWays 203 = .ok (.iastore, 1) := by decide +kernel
theorem dX5_layWays_204 : decode cX5_layWays 204 = .ok (.iinc 2 1, 3) := by decide +kernel
theorem dX5_layWays_207 : decode cX5_layWays 207 = .ok (.goto (-21), 3) := by decide +kernel
theorem dX5_layWays_210 : decode cX5_layWays 210 = .ok (.iload_n 1, 1) := by decide +kernel
theorem dX5_layWays_211 : decode cX5_layWays 211 = .ok (.iconst 1, 1) := by decide +kernel
theorem dX5_layWays_212 : decode cX5_layWays 212 = .ok (.isub, 1) := by decide +kernel
theorem dX5_layWays_213 : decode cX5_layWays 213 = .ok (.istore_n 2, 1) := by decide +kernel
theorem dX5_layWays_214 : decode cX5_layWays 214 = .ok (.iload_n 2, 1) := by decide +kernel
theorem dX5_layWays_215 : decode cX5_layWays 215 = .ok (.ifCond .lt 111, 3) := by decide +kernel
theorem dX5_layWays_218 : decode cX5_layWays 218 = .ok (.iconst 0, 1) := by decide +kernel
theorem dX5_layWays_219 : decode cX5_layWays 219 = .ok (.istore_n 3, 1) := by decide +kernel
theorem dX5_layWays_220 : decode cX5_layWays 220 = .ok (.iload_n 3, 1) := by decide +kernel
theorem dX5_layWays_221 : decode cX5_layWays 221 = .ok (.bipush 64, 2) := by decide +kernel
theorem dX5_layWays_223 : decode cX5_layWays 223 = .ok (.if_icmp .ge 97, 3) := by decide +kernel
theorem dX5_layWays_226 : decode cX5_layWays 226 = .ok (.iconst 0, 1) := by decide +kernel
theorem dX5_layWays_227 : decode cX5_layWays 227 = .ok (.istore 4, 2) := by decide +kernel
theorem dX5_layWays_229 : decode cX5_layWays 229 = .ok (.iload 4, 2) := by decide +kernel
theorem dX5_layWays_231 : decode cX5_layWays 231 = .ok (.aload_n 0, 1) := by decide +kernel
theorem dX5_layWays_232 : decode cX5_layWays 232 = .ok (.getfield 94, 3) := by decide +kernel
theorem dX5_layWays_235 : decode cX5_layWays 235 = .ok (.if_icmp .ge 79, 3) := by decide +kernel
theorem dX5_layWays_238 : decode cX5_layWays 238 = .ok (.aload_n 0, 1) := by decide +kernel
theorem dX5_layWays_239 : decode cX5_layWays 239 = .ok (.iload 4, 2) := by decide +kernel
theorem dX5_layWays_241 : decode cX5_layWays 241 = .ok (.iload_n 3, 1) := by decide +kernel
theorem dX5_layWays_242 : decode cX5_layWays 242 = .ok (.invokevirtual 124, 3) := by decide +kernel
theorem dX5_layWays_245 : decode cX5_layWays 245 = .ok (.ifCond .eq 63, 3) := by decide +kernel
theorem dX5_layWays_248 : decode cX5_layWays 248 = .ok (.iload_n 3, 1) := by decide +kernel
theorem dX5_layWays_249 : decode cX5_layWays 249 = .ok (.bipush 8, 2) := by decide +kernel
theorem dX5_layWays_251 : decode cX5_layWays 251 = .ok (.idiv, 1) := by decide +kernel
theorem dX5_layWays_252 : decode cX5_layWays 252 = .ok (.iload 4, 2) := by decide +kernel
theorem dX5_layWays_254 : decode cX5_layWays 254 = .ok (.if_icmp .eq 54, 3) := by decide +kernel
theorem dX5_layWays_257 : decode cX5_layWays 257 = .ok (.aload_n 0, 1) := by decide +kernel
theorem dX5_layWays_258 : decode cX5_layWays 258 = .ok (.iload_n 2, 1) := by decide +kernel
theorem dX5_layWays_259 : decode cX5_layWays 259 = .ok (.iconst 1, 1) := by decide +kernel
theorem dX5_layWays_260 : decode cX5_layWays 260 = .ok (.iadd, 1) := by decide +kernel
theorem dX5_layWays_261 : decode cX5_layWays 261 = .ok (.aload_n 0, 1) := by decide +kernel
theorem dX5_layWays_262 : decode cX5_layWays 262 = .ok (.iload 4, 2) := by decide +kernel
theorem dX5_layWays_264 : decode cX5_layWays 264 = .ok (.iload_n 3, 1) := by decide +kernel
theorem dX5_layWays_265 : decode cX5_layWays 265 = .ok (.invokevirtual 134, 3) := by decide +kernel
theorem dX5_layWays_268 : decode cX5_layWays 268 = .ok (.invokevirtual 186, 3) := by decide +kernel
theorem dX5_layWays_271 : decode cX5_layWays 271 = .ok (.ifCond .eq 37, 3) := by decide +kernel
theorem dX5_layWays_274 : decode cX5_layWays 274 = .ok (.aload_n 0, 1) := by decide +kernel
theorem dX5_layWays_275 : decode cX5_layWays 275 = .ok (.getfield 34, 3) := by decide +kernel
theorem dX5_layWays_278 : decode cX5_layWays 278 = .ok (.bipush 64, 2) := by decide +kernel
theorem dX5_layWays_280 : decode cX5_layWays 280 = .ok (.iload_n 2, 1) := by decide +kernel
theorem dX5_layWays_281 : decode cX5_layWays 281 = .ok (.imul, 1) := by decide +kernel
theorem dX5_layWays_282 : decode cX5_layWays 282 = .ok (.iload_n 3, 1) := by decide +kernel
theorem dX5_layWays_283 : decode cX5_layWays 283 = .ok (.iadd, 1) := by decide +kernel
theorem dX5_layWays_284 : decode cX5_layWays 284 = .ok (.dup2, 1) := by decide +kernel
theorem dX5_layWays_285 : decode cX5_layWays 285 = .ok (.iaload, 1) := by decide +kernel
theorem dX5_layWays_286 : decode cX5_layWays 286 = .ok (.aload_n 0, 1) := by decide +kernel
theorem dX5_layWays_287 : decode cX5_layWays 287 = .ok (.getfield 34, 3) := by decide +kernel
theorem dX5_layWays_290 : decode cX5_layWays 290 = .ok (.bipush 64, 2) := by decide +kernel
theorem dX5_layWays_292 : decode cX5_layWays 292 = .ok (.iload_n 2, 1) := by decide +kernel
theorem dX5_layWays_293 : decode cX5_layWays 293 = .ok (.imul, 1) := by decide +kernel
theorem dX5_layWays_294 : decode cX5_layWays 294 = .ok (.bipush 64, 2) := by decide +kernel
theorem dX5_layWays_296 : decode cX5_layWays 296 = .ok (.iadd, 1) := by decide +kernel
theorem dX5_layWays_297 : decode cX5_layWays 297 = .ok (.aload_n 0, 1) := by decide +kernel
theorem dX5_layWays_298 : decode cX5_layWays 298 = .ok (.iload 4, 2) := by decide +kernel
theorem dX5_layWays_300 : decode cX5_layWays 300 = .ok (.iload_n 3, 1) := by decide +kernel
theorem dX5_layWays_301 : decode cX5_layWays 301 = .ok (.invokevirtual 134, 3) := by decide +kernel
theorem dX5_layWays_304 : decode cX5_layWays 304 = .ok (.iadd, 1) := by decide +kernel
theorem dX5_layWays_305 : decode cX5_layWays 305 = .ok (.iaload, 1) := by decide +kernel
theorem dX5_layWays_306 : decode cX5_layWays 306 = .ok (.iadd, 1) := by decide +kernel
theorem dX5_layWays_307 : decode cX5_layWays 307 = .ok (.iastore, 1) := by decide +kernel
theorem dX5_layWays_308 : decode cX5_layWays 308 = .ok (.iinc 4 1, 3) := by decide +kernel
theorem dX5_layWays_311 : decode cX5_layWays 311 = .ok (.goto (-82), 3) := by decide +kernel
theorem dX5_layWays_314 : decode cX5_layWays 314 = .ok (.iinc 3 1, 3) := by decide +kernel
theorem dX5_layWays_317 : decode cX5_layWays 317 = .ok (.goto (-97), 3) := by decide +kernel
theorem dX5_layWays_320 : decode cX5_layWays 320 = .ok (.iinc 2 (-1), 3) := by decide +kernel
theorem dX5_layWays_323 : decode cX5_layWays 323 = .ok (.goto (-109), 3) := by decide +kernel
theorem dX5_layWays_326 : decode cX5_layWays 326 = .ok (.return_, 1) := by decide +kernel
set_option maxRecDepth 20000 in
theorem ggX5_rowsOf_X5_layWays : GoodIn wsX5_rowsOf wsX5_layWays := goodIn_r _ [6, 1, 7, 8, 9, 10, 11, 12, 5, 13, 14, 15, 16, 17, 18, 19, 20, 21, 22, 23, 24, 25, 26, 27, 28, 29, 30, 31, 32, 33, 34, 35, 36, 37, 38, 39, 40, 41, 42, 43, 44, 45, 46, 47, 48, 49, 50, 51, 52, 53, 54, 55, 56, 57, 58, 59, 60] (by decide +kernel) (by decide +kernel)
set_option maxRecDepth 20000 in
theorem gX5_rowsOf_X5_layWays : GoodIn wsX5_rowsOf (wsV RX5 189 RX5 yX5_layWays wsX5_layWays) := goodIn_app (goodIn_of _ (by decide +kernel)) ggX5_rowsOf_X5_layWays
theorem dX5_rowsOf_0 : decode cX5_rowsOf 0 = .ok (.aload_n 0, 1) := by decide +kernel
theorem dX5_rowsOf_1 : decode cX5_rowsOf 1 = .ok (.iload_n 1, 1) := by decide +kernel
theorem dX5_rowsOf_2 : decode cX5_rowsOf 2 = .ok (.invokevirtual 189, 3) := by decide +kernel
theorem dX5_rowsOf_5 : decode cX5_rowsOf 5 = .ok (.iconst 0, 1) := by decide +kernel
theorem dX5_rowsOf_6 : decode cX5_rowsOf 6 = .ok (.istore_n 3, 1) := by decide +kernel
theorem dX5_rowsOf_7 : decode cX5_rowsOf 7 = .ok (.iconst 0, 1) := by decide +kernel
theorem dX5_rowsOf_8 : decode cX5_rowsOf 8 = .ok (.istore 4, 2) := by decide +kernel
theorem dX5_rowsOf_10 : decode cX5_rowsOf 10 = .ok (.iconst 0, 1) := by decide +kernel
theorem dX5_rowsOf_11 : decode cX5_rowsOf 11 = .ok (.istore 5, 2) := by decide +kernel
theorem dX5_rowsOf_13 : decode cX5_rowsOf 13 = .ok (.iload 5, 2) := by decide +kernel
theorem dX5_rowsOf_15 : decode cX5_rowsOf 15 = .ok (.bipush 64, 2) := by decide +kernel
theorem dX5_rowsOf_17 : decode cX5_rowsOf 17 = .ok (.if_icmp .ge 68, 3) := by decide +kernel
theorem dX5_rowsOf_20 : decode cX5_rowsOf 20 = .ok (.aload_n 0, 1) := by decide +kernel
theorem dX5_rowsOf_21 : decode cX5_rowsOf 21 = .ok (.getfield 31, 3) := by decide +kernel
theorem dX5_rowsOf_24 : decode cX5_rowsOf 24 = .ok (.bipush 64, 2) := by decide +kernel
theorem dX5_rowsOf_26 : decode cX5_rowsOf 26 = .ok (.iload_n 1, 1) := by decide +kernel
theorem dX5_rowsOf_27 : decode cX5_rowsOf 27 = .ok (.imul, 1) := by decide +kernel
theorem dX5_rowsOf_28 : decode cX5_rowsOf 28 = .ok (.iload 5, 2) := by decide +kernel
theorem dX5_rowsOf_30 : decode cX5_rowsOf 30 = .ok (.iadd, 1) := by decide +kernel
theorem dX5_rowsOf_31 : decode cX5_rowsOf 31 = .ok (.iaload, 1) := by decide +kernel
theorem dX5_rowsOf_32 : decode cX5_rowsOf 32 = .ok (.istore 6, 2) := by decide +kernel
theorem dX5_rowsOf_34 : decode cX5_rowsOf 34 = .ok (.iload 5, 2) := by decide +kernel
theorem dX5_rowsOf_36 : decode cX5_rowsOf 36 = .ok (.bipush 8, 2) := by decide +kernel
theorem dX5_rowsOf_38 : decode cX5_rowsOf 38 = .ok (.idiv, 1) := by decide +kernel
theorem dX5_rowsOf_39 : decode cX5_rowsOf 39 = .ok (.bipush 7, 2) := by decide +kernel
theorem dX5_rowsOf_41 : decode cX5_rowsOf 41 = .ok (.if_icmp .ne 8, 3) := by decide +kernel
theorem dX5_rowsOf_44 : decode cX5_rowsOf 44 = .ok (.bipush 6, 2) := by decide +kernel
theorem dX5_rowsOf_46 : decode cX5_rowsOf 46 = .ok (.goto 8, 3) := by decide +kernel
theorem dX5_rowsOf_49 : decode cX5_rowsOf 49 = .ok (.iload 5, 2) := by decide +kernel
theorem dX5_rowsOf_51 : decode cX5_rowsOf 51 = .ok (.bipush 8, 2) := by decide +kernel
theorem dX5_rowsOf_53 : decode cX5_rowsOf 53 = .ok (.idiv, 1) := by decide +kernel
theorem dX5_rowsOf_54 : decode cX5_rowsOf 54 = .ok (.istore 7, 2) := by decide +kernel
theorem dX5_rowsOf_56 : decode cX5_rowsOf 56 = .ok (.iload_n 3, 1) := by decide +kernel
theorem dX5_rowsOf_57 : decode cX5_rowsOf 57 = .ok (.iload 6, 2) := by decide +kernel
theorem dX5_rowsOf_59 : decode cX5_rowsOf 59 = .ok (.iadd, 1) := by decide +kernel
theorem dX5_rowsOf_60 : decode cX5_rowsOf 60 = .ok (.istore_n 3, 1) := by decide +kernel
theorem dX5_rowsOf_61 : decode cX5_rowsOf 61 = .ok (.iload 4, 2) := by decide +kernel
theorem dX5_rowsOf_63 : decode cX5_rowsOf 63 = .ok (.iload 6, 2) := by decide +kernel
theorem dX5_rowsOf_65 : decode cX5_rowsOf 65 = .ok (.ifCond .le 10, 3) := by decide +kernel
theorem dX5_rowsOf_68 : decode cX5_rowsOf 68 = .ok (.iconst 1, 1) := by decide +kernel
theorem dX5_rowsOf_69 : decode cX5_rowsOf 69 = .ok (.iload 7, 2) := by decide +kernel
theorem dX5_rowsOf_71 : decode cX5_rowsOf 71 = .ok (.ishl, 1) := by decide +kernel
theorem dX5_rowsOf_72 : decode cX5_rowsOf 72 = .ok (.goto 4, 3) := by decide +kernel
theorem dX5_rowsOf_75 : decode cX5_rowsOf 75 = .ok (.iconst 0, 1) := by decide +kernel
theorem dX5_rowsOf_76 : decode cX5_rowsOf 76 = .ok (.ior, 1) := by decide +kernel
theorem dX5_rowsOf_77 : decode cX5_rowsOf 77 = .ok (.istore 4, 2) := by decide +kernel
theorem dX5_rowsOf_79 : decode cX5_rowsOf 79 = .ok (.iinc 5 1, 3) := by decide +kernel
theorem dX5_rowsOf_82 : decode cX5_rowsOf 82 = .ok (.goto (-69), 3) := by decide +kernel
theorem dX5_rowsOf_85 : decode cX5_rowsOf 85 = .ok (.iload_n 2, 1) := by decide +kernel
theorem dX5_rowsOf_86 : decode cX5_rowsOf 86 = .ok (.ifCond .ne 7, 3) := by decide +kernel
theorem dX5_rowsOf_89 : decode cX5_rowsOf 89 = .ok (.iload_n 3, 1) := by decide +kernel
theorem dX5_rowsOf_90 : decode cX5_rowsOf 90 = .ok (.goto 5, 3) := by decide +kernel
theorem dX5_rowsOf_93 : decode cX5_rowsOf 93 = .ok (.iload 4, 2) := by decide +kernel
theorem dX5_rowsOf_95 : decode cX5_rowsOf 95 = .ok (.ireturn, 1) := by decide +kernel
set_option maxRecDepth 20000 in
theorem ggX5_rows_X5_in : GoodIn wsX5_rows wsX5_in := goodIn_r _ [5] (by decide +kernel) (by decide +kernel)
set_option maxRecDepth 20000 in
theorem gX5_rows_X5_in : GoodIn wsX5_rows (va_wsS RX5 64 yX5_in wsX5_in) := goodIn_app (goodIn_of _ (by decide +kernel)) ggX5_rows_X5_in
set_option maxRecDepth 20000 in
theorem ggX5_rows_X5_lacks : GoodIn wsX5_rows wsX5_lacks := goodIn_r _ [9, 10, 38, 39, 40, 41, 42, 43, 44, 45, 46, 47, 48, 49, 50, 51, 52, 53, 54, 55, 56, 57, 58, 59, 60, 61, 62, 63, 64, 65, 66, 67, 68, 69, 70, 71, 72] (by decide +kernel) (by decide +kernel)
set_option maxRecDepth 20000 in
theorem gX5_rows_X5_lacks : GoodIn wsX5_rows (wsV RX5 141 RX5 yX5_lacks wsX5_lacks) := goodIn_app (goodIn_of _ (by decide +kernel)) ggX5_rows_X5_lacks
set_option maxRecDepth 20000 in
theorem ggX5_rows_X5_rowsOf : GoodIn wsX5_rows wsX5_rowsOf := goodIn_r _ [14, 15, 16, 17, 18, 4, 19, 20, 21, 10, 22, 23, 24, 25, 26, 27, 28, 29, 30, 31, 32, 33, 34, 35, 36, 37, 38, 39, 40, 41, 42, 43, 44, 45, 46, 47, 48, 49, 50, 51, 52, 53, 54, 55, 56, 57, 58, 59, 60, 61, 62, 63, 64, 65, 66, 67, 68, 69, 70, 71, 72] (by decide +kernel) (by decide +kernel)
set_option maxRecDepth 20000 in
theorem gX5_rows_X5_rowsOf : GoodIn wsX5_rows (wsV RX5 192 RX5 yX5_rowsOf wsX5_rowsOf) := goodIn_app (goodIn_of _ (by decide +kernel)) ggX5_rows_X5_rowsOf
theorem dX5_rows_0 : decode cX5_rows 0 = .ok (.iload_n 1, 1) := by decide +kernel
theorem dX5_rows_1 : decode cX5_rows 1 = .ok (.i2l, 1) := by decide +kernel
theorem dX5_rows_2 : decode cX5_rows 2 = .ok (.lconst 0, 1) := by decide +kernel
theorem dX5_rows_3 : decode cX5_rows 3 = .ok (.ldc2_w 179, 3) := by decide +kernel
theorem dX5_rows_6 : decode cX5_rows 6 = .ok (.invokestatic 64, 3) := by decide +kernel
theorem dX5_rows_9 : decode cX5_rows 9 = .ok (.ifCond .eq 13, 3) := by decide +kernel
theorem dX5_rows_12 : decode cX5_rows 12 = .ok (.iload_n 2, 1) := by decide +kernel
theorem dX5_rows_13 : decode cX5_rows 13 = .ok (.i2l, 1) := by decide +kernel
theorem dX5_rows_14 : decode cX5_rows 14 = .ok (.lconst 0, 1) := by decide +kernel
theorem dX5_rows_15 : decode cX5_rows 15 = .ok (.lconst 1, 1) := by decide +kernel
theorem dX5_rows_16 : decode cX5_rows 16 = .ok (.invokestatic 64, 3) := by decide +kernel
theorem dX5_rows_19 : decode cX5_rows 19 = .ok (.ifCond .ne 6, 3) := by decide +kernel
theorem dX5_rows_22 : decode cX5_rows 22 = .ok (.bipush (-102), 2) := by decide +kernel
theorem dX5_rows_24 : decode cX5_rows 24 = .ok (.ireturn, 1) := by decide +kernel
theorem dX5_rows_25 : decode cX5_rows 25 = .ok (.aload_n 0, 1) := by decide +kernel
theorem dX5_rows_26 : decode cX5_rows 26 = .ok (.invokevirtual 141, 3) := by decide +kernel
theorem dX5_rows_29 : decode cX5_rows 29 = .ok (.ifCond .eq 8, 3) := by decide +kernel
theorem dX5_rows_32 : decode cX5_rows 32 = .ok (.bipush (-103), 2) := by decide +kernel
theorem dX5_rows_34 : decode cX5_rows 34 = .ok (.goto 9, 3) := by decide +kernel
theorem dX5_rows_37 : decode cX5_rows 37 = .ok (.aload_n 0, 1) := by decide +kernel
theorem dX5_rows_38 : decode cX5_rows 38 = .ok (.iload_n 1, 1) := by decide +kernel
theorem dX5_rows_39 : decode cX5_rows 39 = .ok (.iload_n 2, 1) := by decide +kernel
theorem dX5_rows_40 : decode cX5_rows 40 = .ok (.invokevirtual 192, 3) := by decide +kernel
theorem dX5_rows_43 : decode cX5_rows 43 = .ok (.ireturn, 1) := by decide +kernel
set_option maxRecDepth 20000 in
theorem ggX5_whenOf_X5_layWays : GoodIn wsX5_whenOf wsX5_layWays := goodIn_r _ [8, 2, 3, 9, 10, 11, 12, 13, 7, 14, 15, 16, 17, 18, 19, 20, 21, 22, 23, 24, 25, 26, 27, 28, 29, 30, 31, 32, 33, 34, 35, 36, 37, 38, 39, 40, 41, 42, 43, 44, 45, 46, 47, 48, 49, 50, 51, 52, 53, 54, 55, 56, 57, 58, 59, 60, 61] (by decide +kernel) (by decide +kernel)
set_option maxRecDepth 20000 in
theorem gX5_whenOf_X5_layWays : GoodIn wsX5_whenOf (wsV RX5 189 RX5 yX5_layWays wsX5_layWays) := goodIn_app (goodIn_of _ (by decide +kernel)) ggX5_whenOf_X5_layWays
theorem dX5_whenOf_0 : decode cX5_whenOf 0 = .ok (.aload_n 0, 1) := by decide +kernel
theorem dX5_whenOf_1 : decode cX5_whenOf 1 = .ok (.bipush 6, 2) := by decide +kernel
theorem dX5_whenOf_3 : decode cX5_whenOf 3 = .ok (.invokevirtual 189, 3) := by decide +kernel
theorem dX5_whenOf_6 : decode cX5_whenOf 6 = .ok (.iconst (-1), 1) := by decide +kernel
theorem dX5_whenOf_7 : decode cX5_whenOf 7 = .ok (.istore_n 1, 1) := by decide +kernel
theorem dX5_whenOf_8 : decode cX5_whenOf 8 = .ok (.iconst (-1), 1) := by decide +kernel
theorem dX5_whenOf_9 : decode cX5_whenOf 9 = .ok (.istore_n 2, 1) := by decide +kernel
theorem dX5_whenOf_10 : decode cX5_whenOf 10 = .ok (.iconst 1, 1) := by decide +kernel
theorem dX5_whenOf_11 : decode cX5_whenOf 11 = .ok (.istore_n 3, 1) := by decide +kernel
theorem dX5_whenOf_12 : decode cX5_whenOf 12 = .ok (.iload_n 3, 1) := by decide +kernel
theorem dX5_whenOf_13 : decode cX5_whenOf 13 = .ok (.bipush 7, 2) := by decide +kernel
theorem dX5_whenOf_15 : decode cX5_whenOf 15 = .ok (.if_icmp .ge 178, 3) := by decide +kernel
theorem dX5_whenOf_18 : decode cX5_whenOf 18 = .ok (.iconst 0, 1) := by decide +kernel
theorem dX5_whenOf_19 : decode cX5_whenOf 19 = .ok (.istore 4, 2) := by decide +kernel
theorem dX5_whenOf_21 : decode cX5_whenOf 21 = .ok (.iload 4, 2) := by decide +kernel
theorem dX5_whenOf_23 : decode cX5_whenOf 23 = .ok (.bipush 8, 2) := by decide +kernel
theorem dX5_whenOf_25 : decode cX5_whenOf 25 = .ok (.if_icmp .ge 17, 3) := by decide +kernel
theorem dX5_whenOf_28 : decode cX5_whenOf 28 = .ok (.aload_n 0, 1) := by decide +kernel
theorem dX5_whenOf_29 : decode cX5_whenOf 29 = .ok (.getfield 37, 3) := by decide +kernel
theorem dX5_whenOf_32 : decode cX5_whenOf 32 = .ok (.iload 4, 2) := by decide +kernel
theorem dX5_whenOf_34 : decode cX5_whenOf 34 = .ok (.iconst 0, 1) := by decide +kernel
theorem dX5_whenOf_35 : decode cX5_whenOf 35 = .ok (.iastore, 1) := by decide +kernel
theorem dX5_whenOf_36 : decode cX5_whenOf 36 = .ok (.iinc 4 1, 3) := by decide +kernel
theorem dX5_whenOf_39 : decode cX5_whenOf 39 = .ok (.goto (-18), 3) := by decide +kernel
theorem dX5_whenOf_42 : decode cX5_whenOf 42 = .ok (.iconst 0, 1) := by decide +kernel
theorem dX5_whenOf_43 : decode cX5_whenOf 43 = .ok (.istore 4, 2) := by decide +kernel
theorem dX5_whenOf_45 : decode cX5_whenOf 45 = .ok (.iload 4, 2) := by decide +kernel
theorem dX5_whenOf_47 : decode cX5_whenOf 47 = .ok (.bipush 64, 2) := by decide +kernel
theorem dX5_whenOf_49 : decode cX5_whenOf 49 = .ok (.if_icmp .ge 47, 3) := by decide +kernel
theorem dX5_whenOf_52 : decode cX5_whenOf 52 = .ok (.aload_n 0, 1) := by decide +kernel
theorem dX5_whenOf_53 : decode cX5_whenOf 53 = .ok (.getfield 37, 3) := by decide +kernel
theorem dX5_whenOf_56 : decode cX5_whenOf 56 = .ok (.iload 4, 2) := by decide +kernel
theorem dX5_whenOf_58 : decode cX5_whenOf 58 = .ok (.bipush 8, 2) := by decide +kernel
theorem dX5_whenOf_60 : decode cX5_whenOf 60 = .ok (.irem, 1) := by decide +kernel
theorem dX5_whenOf_61 : decode cX5_whenOf 61 = .ok (.dup2, 1) := by decide +kernel
theorem dX5_whenOf_62 : decode cX5_whenOf 62 = .ok (.iaload, 1) := by decide +kernel
theorem dX5_whenOf_63 : decode cX5_whenOf 63 = .ok (.aload_n 0, 1) := by decide +kernel
theorem dX5_whenOf_64 : decode cX5_whenOf 64 = .ok (.getfield 31, 3) := by decide +kernel
theorem dX5_whenOf_67 : decode cX5_whenOf 67 = .ok (.bipush 64, 2) := by decide +kernel
theorem dX5_whenOf_69 : decode cX5_whenOf 69 = .ok (.iload_n 3, 1) := by decide +kernel
theorem dX5_whenOf_70 : decode cX5_whenOf 70 = .ok (.imul, 1) := by decide +kernel
theorem dX5_whenOf_71 : decode cX5_whenOf 71 = .ok (.iload 4, 2) := by decide +kernel
theorem dX5_whenOf_73 : decode cX5_whenOf 73 = .ok (.iadd, 1) := by decide +kernel
theorem dX5_whenOf_74 : decode cX5_whenOf 74 = .ok (.iaload, 1) := by decide +kernel
theorem dX5_whenOf_75 : decode cX5_whenOf 75 = .ok (.aload_n 0, 1) := by decide +kernel
theorem dX5_whenOf_76 : decode cX5_whenOf 76 = .ok (.getfield 34, 3) := by decide +kernel
theorem dX5_whenOf_79 : decode cX5_whenOf 79 = .ok (.bipush 64, 2) := by decide +kernel
theorem dX5_whenOf_81 : decode cX5_whenOf 81 = .ok (.iload_n 3, 1) := by decide +kernel
theorem dX5_whenOf_82 : decode cX5_whenOf 82 = .ok (.imul, 1) := by decide +kernel
theorem dX5_whenOf_83 : decode cX5_whenOf 83 = .ok (.iload 4, 2) := by decide +kernel
theorem dX5_whenOf_85 : decode cX5_whenOf 85 = .ok (.iadd, 1) := by decide +kernel
theorem dX5_whenOf_86 : decode cX5_whenOf 86 = .ok (.iaload, 1) := by decide +kernel
theorem dX5_whenOf_87 : decode cX5_whenOf 87 = .ok (.imul, 1) := by decide +kernel
theorem dX5_whenOf_88 : decode cX5_whenOf 88 = .ok (.iadd, 1) := by decide +kernel
theorem dX5_whenOf_89 : decode cX5_whenOf 89 = .ok (.iastore, 1) := by decide +kernel
theorem dX5_whenOf_90 : decode cX5_whenOf 90 = .ok (.iinc 4 1, 3) := by decide +kernel
theorem dX5_whenOf_93 : decode cX5_whenOf 93 = .ok (.goto (-48), 3) := by decide +kernel
theorem dX5_whenOf_96 : decode cX5_whenOf 96 = .ok (.iconst 0, 1) := by decide +kernel
theorem dX5_whenOf_97 : decode cX5_whenOf 97 = .ok (.istore 4, 2) := by decide +kernel
theorem dX5_whenOf_99 : decode cX5_whenOf 99 = .ok (.iconst 0, 1) := by decide +kernel
theorem dX5_whenOf_100 : decode cX5_whenOf 100 = .ok (.istore 5, 2) := by decide +kernel
theorem dX5_whenOf_102 : decode cX5_whenOf 102 = .ok (.iload 5, 2) := by decide +kernel
theorem dX5_whenOf_104 : decode cX5_whenOf 104 = .ok (.bipush 8, 2) := by decide +kernel
theorem dX5_whenOf_106 : decode cX5_whenOf 106 = .ok (.if_icmp .ge 35, 3) := by decide +kernel
theorem dX5_whenOf_109 : decode cX5_whenOf 109 = .ok (.aload_n 0, 1) := by decide +kernel
theorem dX5_whenOf_110 : decode cX5_whenOf 110 = .ok (.getfield 37, 3) := by decide +kernel
theorem dX5_whenOf_113 : decode cX5_whenOf 113 = .ok (.iload 5, 2) := by decide +kernel
theorem dX5_whenOf_115 : decode cX5_whenOf 115 = .ok (.iaload, 1) := by decide +kernel
theorem dX5_whenOf_116 : decode cX5_whenOf 116 = .ok (.iload 4, 2) := by decide +kernel
theorem dX5_whenOf_118 : decode cX5_whenOf 118 = .ok (.if_icmp .le 13, 3) := by decide +kernel
theorem dX5_whenOf_121 : decode cX5_whenOf 121 = .ok (.aload_n 0, 1) := by decide +kernel
theorem dX5_whenOf_122 : decode cX5_whenOf 122 = .ok (.getfield 37, 3) := by decide +kernel
theorem dX5_whenOf_125 : decode cX5_whenOf 125 = .ok (.iload 5, 2) := by decide +kernel
theorem dX5_whenOf_127 : decode cX5_whenOf 127 = .ok (.iaload, 1) := by decide +kernel
theorem dX5_whenOf_128 : decode cX5_whenOf 128 = .ok (.goto 5, 3) := by decide +kernel
theorem dX5_whenOf_131 : decode cX5_whenOf 131 = .ok (.iload 4, 2) := by decide +kernel
theorem dX5_whenOf_133 : decode cX5_whenOf 133 = .ok (.istore 4, 2) := by decide +kernel
theorem dX5_whenOf_135 : decode cX5_whenOf 135 = .ok (.iinc 5 1, 3) := by decide +kernel
theorem dX5_whenOf_138 : decode cX5_whenOf 138 = .ok (.goto (-36), 3) := by decide +kernel
theorem dX5_whenOf_141 : decode cX5_whenOf 141 = .ok (.iload 4, 2) := by decide +kernel
theorem dX5_whenOf_143 : decode cX5_whenOf 143 = .ok (.ifCond .le 18, 3) := by decide +kernel
theorem dX5_whenOf_146 : decode cX5_whenOf 146 = .ok (.iload_n 1, 1) := by decide +kernel
theorem dX5_whenOf_147 : decode cX5_whenOf 147 = .ok (.iconst (-1), 1) := by decide +kernel
theorem dX5_whenOf_148 : decode cX5_whenOf 148 = .ok (.if_icmp .eq 9, 3) := by decide +kernel
theorem dX5_whenOf_151 : decode cX5_whenOf 151 = .ok (.iload 4, 2) := by decide +kernel
theorem dX5_whenOf_153 : decode cX5_whenOf 153 = .ok (.iload_n 2, 1) := by decide +kernel
theorem dX5_whenOf_154 : decode cX5_whenOf 154 = .ok (.if_icmp .ge 7, 3) := by decide +kernel
theorem dX5_whenOf_157 : decode cX5_whenOf 157 = .ok (.iconst 1, 1) := by decide +kernel
theorem dX5_whenOf_158 : decode cX5_whenOf 158 = .ok (.goto 4, 3) := by decide +kernel
theorem dX5_whenOf_161 : decode cX5_whenOf 161 = .ok (.iconst 0, 1) := by decide +kernel
theorem dX5_whenOf_162 : decode cX5_whenOf 162 = .ok (.istore 5, 2) := by decide +kernel
theorem dX5_whenOf_164 : decode cX5_whenOf 164 = .ok (.iload 5, 2) := by decide +kernel
theorem dX5_whenOf_166 : decode cX5_whenOf 166 = .ok (.ifCond .eq 7, 3) := by decide +kernel
theorem dX5_whenOf_169 : decode cX5_whenOf 169 = .ok (.iload_n 3, 1) := by decide +kernel
theorem dX5_whenOf_170 : decode cX5_whenOf 170 = .ok (.goto 4, 3) := by decide +kernel
theorem dX5_whenOf_173 : decode cX5_whenOf 173 = .ok (.iload_n 1, 1) := by decide +kernel
theorem dX5_whenOf_174 : decode cX5_whenOf 174 = .ok (.istore_n 1, 1) := by decide +kernel
theorem dX5_whenOf_175 : decode cX5_whenOf 175 = .ok (.iload 5, 2) := by decide +kernel
theorem dX5_whenOf_177 : decode cX5_whenOf 177 = .ok (.ifCond .eq 8, 3) := by decide +kernel
theorem dX5_whenOf_180 : decode cX5_whenOf 180 = .ok (.iload 4, 2) := by decide +kernel
theorem dX5_whenOf_182 : decode cX5_whenOf 182 = .ok (.goto 4, 3) := by decide +kernel
theorem dX5_whenOf_185 : decode cX5_whenOf 185 = .ok (.iload_n 2, 1) := by decide +kernel
theorem dX5_whenOf_186 : decode cX5_whenOf 186 = .ok (.istore_n 2, 1) := by decide +kernel
theorem dX5_whenOf_187 : decode cX5_whenOf 187 = .ok (.iinc 3 1, 3) := by decide +kernel
theorem dX5_whenOf_190 : decode cX5_whenOf 190 = .ok (.goto (-178), 3) := by decide +kernel
theorem dX5_whenOf_193 : decode cX5_whenOf 193 = .ok (.iload_n 1, 1) := by decide +kernel
theorem dX5_whenOf_194 : decode cX5_whenOf 194 = .ok (.ireturn, 1) := by decide +kernel
set_option maxRecDepth 20000 in
theorem ggX5_when_X5_lacks : GoodIn wsX5_when wsX5_lacks := goodIn_r _ [5, 6, 35, 36, 37, 38, 39, 40, 41, 42, 43, 44, 45, 46, 47, 48, 49, 50, 51, 52, 53, 54, 55, 56, 57, 58, 59, 60, 61, 62, 63, 64, 65, 66, 67, 68, 69] (by decide +kernel) (by decide +kernel)
set_option maxRecDepth 20000 in
theorem gX5_when_X5_lacks : GoodIn wsX5_when (wsV RX5 141 RX5 yX5_lacks wsX5_lacks) := goodIn_app (goodIn_of _ (by decide +kernel)) ggX5_when_X5_lacks
set_option maxRecDepth 20000 in
theorem ggX5_when_X5_whenOf : GoodIn wsX5_when wsX5_whenOf := goodIn_r _ [10, 11, 12, 13, 14, 15, 16, 4, 17, 18, 6, 19, 20, 21, 22, 23, 24, 25, 26, 27, 28, 29, 30, 31, 32, 33, 34, 35, 36, 37, 38, 39, 40, 41, 42, 43, 44, 45, 46, 47, 48, 49, 50, 51, 52, 53, 54, 55, 56, 57, 58, 59, 60, 61, 62, 63, 64, 65, 66, 67, 68, 69] (by decide +kernel) (by decide +kernel)
set_option maxRecDepth 20000 in
theorem gX5_when_X5_whenOf : GoodIn wsX5_when (wsV RX5 195 RX5 yX5_whenOf wsX5_whenOf) := goodIn_app (goodIn_of _ (by decide +kernel)) ggX5_when_X5_whenOf
theorem dX5_when_0 : decode cX5_when 0 = .ok (.aload_n 0, 1) := by decide +kernel
theorem dX5_when_1 : decode cX5_when 1 = .ok (.invokevirtual 141, 3) := by decide +kernel
theorem dX5_when_4 : decode cX5_when 4 = .ok (.ifCond .eq 8, 3) := by decide +kernel
theorem dX5_when_7 : decode cX5_when 7 = .ok (.bipush (-103), 2) := by decide +kernel
theorem dX5_when_9 : decode cX5_when 9 = .ok (.goto 7, 3) := by decide +kernel
theorem dX5_when_12 : decode cX5_when 12 = .ok (.aload_n 0, 1) := by decide +kernel
theorem dX5_when_13 : decode cX5_when 13 = .ok (.invokevirtual 195, 3) := by decide +kernel
theorem dX5_when_16 : decode cX5_when 16 = .ok (.ireturn, 1) := by decide +kernel
theorem dX5_layAll_0 : decode cX5_layAll 0 = .ok (.aload_n 1, 1) := by decide +kernel
theorem dX5_layAll_1 : decode cX5_layAll 1 = .ok (.iconst 0, 1) := by decide +kernel
theorem dX5_layAll_2 : decode cX5_layAll 2 = .ok (.aload_n 0, 1) := by decide +kernel
theorem dX5_layAll_3 : decode cX5_layAll 3 = .ok (.getfield 59, 3) := by decide +kernel
theorem dX5_layAll_6 : decode cX5_layAll 6 = .ok (.iastore, 1) := by decide +kernel
theorem dX5_layAll_7 : decode cX5_layAll 7 = .ok (.aload_n 1, 1) := by decide +kernel
theorem dX5_layAll_8 : decode cX5_layAll 8 = .ok (.iconst 1, 1) := by decide +kernel
theorem dX5_layAll_9 : decode cX5_layAll 9 = .ok (.aload_n 0, 1) := by decide +kernel
theorem dX5_layAll_10 : decode cX5_layAll 10 = .ok (.getfield 100, 3) := by decide +kernel
theorem dX5_layAll_13 : decode cX5_layAll 13 = .ok (.iastore, 1) := by decide +kernel
theorem dX5_layAll_14 : decode cX5_layAll 14 = .ok (.aload_n 1, 1) := by decide +kernel
theorem dX5_layAll_15 : decode cX5_layAll 15 = .ok (.iconst 2, 1) := by decide +kernel
theorem dX5_layAll_16 : decode cX5_layAll 16 = .ok (.aload_n 0, 1) := by decide +kernel
theorem dX5_layAll_17 : decode cX5_layAll 17 = .ok (.getfield 103, 3) := by decide +kernel
theorem dX5_layAll_20 : decode cX5_layAll 20 = .ok (.iastore, 1) := by decide +kernel
theorem dX5_layAll_21 : decode cX5_layAll 21 = .ok (.aload_n 1, 1) := by decide +kernel
theorem dX5_layAll_22 : decode cX5_layAll 22 = .ok (.iconst 3, 1) := by decide +kernel
theorem dX5_layAll_23 : decode cX5_layAll 23 = .ok (.aload_n 0, 1) := by decide +kernel
theorem dX5_layAll_24 : decode cX5_layAll 24 = .ok (.getfield 106, 3) := by decide +kernel
theorem dX5_layAll_27 : decode cX5_layAll 27 = .ok (.iastore, 1) := by decide +kernel
theorem dX5_layAll_28 : decode cX5_layAll 28 = .ok (.aload_n 1, 1) := by decide +kernel
theorem dX5_layAll_29 : decode cX5_layAll 29 = .ok (.iconst 4, 1) := by decide +kernel
theorem dX5_layAll_30 : decode cX5_layAll 30 = .ok (.aload_n 0, 1) := by decide +kernel
theorem dX5_layAll_31 : decode cX5_layAll 31 = .ok (.getfield 109, 3) := by decide +kernel
theorem dX5_layAll_34 : decode cX5_layAll 34 = .ok (.iastore, 1) := by decide +kernel
theorem dX5_layAll_35 : decode cX5_layAll 35 = .ok (.aload_n 1, 1) := by decide +kernel
theorem dX5_layAll_36 : decode cX5_layAll 36 = .ok (.iconst 5, 1) := by decide +kernel
theorem dX5_layAll_37 : decode cX5_layAll 37 = .ok (.aload_n 0, 1) := by decide +kernel
theorem dX5_layAll_38 : decode cX5_layAll 38 = .ok (.getfield 112, 3) := by decide +kernel
theorem dX5_layAll_41 : decode cX5_layAll 41 = .ok (.iastore, 1) := by decide +kernel
theorem dX5_layAll_42 : decode cX5_layAll 42 = .ok (.aload_n 1, 1) := by decide +kernel
theorem dX5_layAll_43 : decode cX5_layAll 43 = .ok (.bipush 6, 2) := by decide +kernel
theorem dX5_layAll_45 : decode cX5_layAll 45 = .ok (.aload_n 0, 1) := by decide +kernel
theorem dX5_layAll_46 : decode cX5_layAll 46 = .ok (.getfield 115, 3) := by decide +kernel
theorem dX5_layAll_49 : decode cX5_layAll 49 = .ok (.iastore, 1) := by decide +kernel
theorem dX5_layAll_50 : decode cX5_layAll 50 = .ok (.return_, 1) := by decide +kernel
theorem dX5_layBack_0 : decode cX5_layBack 0 = .ok (.aload_n 0, 1) := by decide +kernel
theorem dX5_layBack_1 : decode cX5_layBack 1 = .ok (.aload_n 1, 1) := by decide +kernel
theorem dX5_layBack_2 : decode cX5_layBack 2 = .ok (.iconst 0, 1) := by decide +kernel
theorem dX5_layBack_3 : decode cX5_layBack 3 = .ok (.iaload, 1) := by decide +kernel
theorem dX5_layBack_4 : decode cX5_layBack 4 = .ok (.putfield 59, 3) := by decide +kernel
theorem dX5_layBack_7 : decode cX5_layBack 7 = .ok (.aload_n 0, 1) := by decide +kernel
theorem dX5_layBack_8 : decode cX5_layBack 8 = .ok (.aload_n 1, 1) := by decide +kernel
theorem dX5_layBack_9 : decode cX5_layBack 9 = .ok (.iconst 1, 1) := by decide +kernel
theorem dX5_layBack_10 : decode cX5_layBack 10 = .ok (.iaload, 1) := by decide +kernel
theorem dX5_layBack_11 : decode cX5_layBack 11 = .ok (.putfield 100, 3) := by decide +kernel
theorem dX5_layBack_14 : decode cX5_layBack 14 = .ok (.aload_n 0, 1) := by decide +kernel
theorem dX5_layBack_15 : decode cX5_layBack 15 = .ok (.aload_n 1, 1) := by decide +kernel
theorem dX5_layBack_16 : decode cX5_layBack 16 = .ok (.iconst 2, 1) := by decide +kernel
theorem dX5_layBack_17 : decode cX5_layBack 17 = .ok (.iaload, 1) := by decide +kernel
theorem dX5_layBack_18 : decode cX5_layBack 18 = .ok (.putfield 103, 3) := by decide +kernel
theorem dX5_layBack_21 : decode cX5_layBack 21 = .ok (.aload_n 0, 1) := by decide +kernel
theorem dX5_layBack_22 : decode cX5_layBack 22 = .ok (.aload_n 1, 1) := by decide +kernel
theorem dX5_layBack_23 : decode cX5_layBack 23 = .ok (.iconst 3, 1) := by decide +kernel
theorem dX5_layBack_24 : decode cX5_layBack 24 = .ok (.iaload, 1) := by decide +kernel
theorem dX5_layBack_25 : decode cX5_layBack 25 = .ok (.putfield 106, 3) := by decide +kernel
theorem dX5_layBack_28 : decode cX5_layBack 28 = .ok (.aload_n 0, 1) := by decide +kernel
theorem dX5_layBack_29 : decode cX5_layBack 29 = .ok (.aload_n 1, 1) := by decide +kernel
theorem dX5_layBack_30 : decode cX5_layBack 30 = .ok (.iconst 4, 1) := by decide +kernel
theorem dX5_layBack_31 : decode cX5_layBack 31 = .ok (.iaload, 1) := by decide +kernel
theorem dX5_layBack_32 : decode cX5_layBack 32 = .ok (.putfield 109, 3) := by decide +kernel
theorem dX5_layBack_35 : decode cX5_layBack 35 = .ok (.aload_n 0, 1) := by decide +kernel
theorem dX5_layBack_36 : decode cX5_layBack 36 = .ok (.aload_n 1, 1) := by decide +kernel
theorem dX5_layBack_37 : decode cX5_layBack 37 = .ok (.iconst 5, 1) := by decide +kernel
theorem dX5_layBack_38 : decode cX5_layBack 38 = .ok (.iaload, 1) := by decide +kernel
theorem dX5_layBack_39 : decode cX5_layBack 39 = .ok (.putfield 112, 3) := by decide +kernel
theorem dX5_layBack_42 : decode cX5_layBack 42 = .ok (.aload_n 0, 1) := by decide +kernel
theorem dX5_layBack_43 : decode cX5_layBack 43 = .ok (.aload_n 1, 1) := by decide +kernel
theorem dX5_layBack_44 : decode cX5_layBack 44 = .ok (.bipush 6, 2) := by decide +kernel
theorem dX5_layBack_46 : decode cX5_layBack 46 = .ok (.iaload, 1) := by decide +kernel
theorem dX5_layBack_47 : decode cX5_layBack 47 = .ok (.putfield 115, 3) := by decide +kernel
theorem dX5_layBack_50 : decode cX5_layBack 50 = .ok (.return_, 1) := by decide +kernel
set_option maxRecDepth 20000 in
theorem ggX5_image_X5_lacks : GoodIn wsX5_image wsX5_lacks := goodIn_r _ [15, 16, 30, 31, 32, 33, 34, 35, 36, 37, 38, 39, 40, 41, 42, 43, 44, 45, 46, 47, 48, 49, 50, 51, 52, 53, 54, 55, 56, 57, 58, 59, 60, 61, 62, 63, 64] (by decide +kernel) (by decide +kernel)
set_option maxRecDepth 20000 in
theorem gX5_image_X5_lacks : GoodIn wsX5_image (wsV RX5 141 RX5 yX5_lacks wsX5_lacks) := goodIn_app (goodIn_of _ (by decide +kernel)) ggX5_image_X5_lacks
set_option maxRecDepth 20000 in
theorem ggX5_image_X5_copy : GoodIn wsX5_image wsX5_copy := goodIn_r _ [19] (by decide +kernel) (by decide +kernel)
set_option maxRecDepth 20000 in
theorem gX5_image_X5_copy : GoodIn wsX5_image (va_wsS RX5 172 yX5_copy wsX5_copy) := goodIn_app (goodIn_of _ (by decide +kernel)) ggX5_image_X5_copy
set_option maxRecDepth 20000 in
theorem ggX5_image_X5_layAll : GoodIn wsX5_image wsX5_layAll := goodIn_r _ [23, 24, 25, 26, 27, 28, 29, 10, 30, 31, 32, 33, 34, 35, 36, 37, 38, 39, 40, 41, 42, 43, 44, 45, 46, 47, 48, 49, 50, 51, 52, 53, 54, 55, 56, 57, 58, 59, 60, 61, 62, 63, 64] (by decide +kernel) (by decide +kernel)
set_option maxRecDepth 20000 in
theorem gX5_image_X5_layAll : GoodIn wsX5_image (wsV RX5 198 RX5 yX5_layAll wsX5_layAll) := goodIn_app (goodIn_of _ (by decide +kernel)) ggX5_image_X5_layAll
theorem dX5_image_0 : decode cX5_image 0 = .ok (.aload_n 0, 1) := by decide +kernel
theorem dX5_image_1 : decode cX5_image 1 = .ok (.invokevirtual 141, 3) := by decide +kernel
theorem dX5_image_4 : decode cX5_image 4 = .ok (.ifCond .eq 6, 3) := by decide +kernel
theorem dX5_image_7 : decode cX5_image 7 = .ok (.bipush (-103), 2) := by decide +kernel
theorem dX5_image_9 : decode cX5_image 9 = .ok (.ireturn, 1) := by decide +kernel
theorem dX5_image_10 : decode cX5_image 10 = .ok (.aload_n 0, 1) := by decide +kernel
theorem dX5_image_11 : decode cX5_image 11 = .ok (.getfield 16, 3) := by decide +kernel
theorem dX5_image_14 : decode cX5_image 14 = .ok (.aload_n 0, 1) := by decide +kernel
theorem dX5_image_15 : decode cX5_image 15 = .ok (.getfield 40, 3) := by decide +kernel
theorem dX5_image_18 : decode cX5_image 18 = .ok (.invokestatic 172, 3) := by decide +kernel
theorem dX5_image_21 : decode cX5_image 21 = .ok (.aload_n 0, 1) := by decide +kernel
theorem dX5_image_22 : decode cX5_image 22 = .ok (.getfield 28, 3) := by decide +kernel
theorem dX5_image_25 : decode cX5_image 25 = .ok (.aload_n 0, 1) := by decide +kernel
theorem dX5_image_26 : decode cX5_image 26 = .ok (.getfield 46, 3) := by decide +kernel
theorem dX5_image_29 : decode cX5_image 29 = .ok (.invokestatic 172, 3) := by decide +kernel
theorem dX5_image_32 : decode cX5_image 32 = .ok (.aload_n 0, 1) := by decide +kernel
theorem dX5_image_33 : decode cX5_image 33 = .ok (.aload_n 0, 1) := by decide +kernel
theorem dX5_image_34 : decode cX5_image 34 = .ok (.getfield 43, 3) := by decide +kernel
theorem dX5_image_37 : decode cX5_image 37 = .ok (.invokevirtual 198, 3) := by decide +kernel
theorem dX5_image_40 : decode cX5_image 40 = .ok (.aload_n 0, 1) := by decide +kernel
theorem dX5_image_41 : decode cX5_image 41 = .ok (.aload_n 0, 1) := by decide +kernel
theorem dX5_image_42 : decode cX5_image 42 = .ok (.getfield 118, 3) := by decide +kernel
theorem dX5_image_45 : decode cX5_image 45 = .ok (.putfield 202, 3) := by decide +kernel
theorem dX5_image_48 : decode cX5_image 48 = .ok (.aload_n 0, 1) := by decide +kernel
theorem dX5_image_49 : decode cX5_image 49 = .ok (.aload_n 0, 1) := by decide +kernel
theorem dX5_image_50 : decode cX5_image 50 = .ok (.getfield 121, 3) := by decide +kernel
theorem dX5_image_53 : decode cX5_image 53 = .ok (.putfield 55, 3) := by decide +kernel
theorem dX5_image_56 : decode cX5_image 56 = .ok (.aload_n 0, 1) := by decide +kernel
theorem dX5_image_57 : decode cX5_image 57 = .ok (.getfield 115, 3) := by decide +kernel
theorem dX5_image_60 : decode cX5_image 60 = .ok (.ireturn, 1) := by decide +kernel
set_option maxRecDepth 20000 in
theorem ggX5_restore_X5_copy : GoodIn wsX5_restore wsX5_copy := goodIn_r _ [14] (by decide +kernel) (by decide +kernel)
set_option maxRecDepth 20000 in
theorem gX5_restore_X5_copy : GoodIn wsX5_restore (va_wsS RX5 172 yX5_copy wsX5_copy) := goodIn_app (goodIn_of _ (by decide +kernel)) ggX5_restore_X5_copy
set_option maxRecDepth 20000 in
theorem ggX5_restore_X5_layBack : GoodIn wsX5_restore wsX5_layBack := goodIn_r _ [18, 19, 20, 21, 22, 23, 24, 10, 25, 26, 27, 28, 29, 30, 31, 32, 33, 34, 35, 36, 37, 38, 39, 40, 41, 42, 43, 44, 45, 46, 47, 48, 49, 50, 51, 52, 53, 54, 55, 56, 57, 58, 59] (by decide +kernel) (by decide +kernel)
set_option maxRecDepth 20000 in
theorem gX5_restore_X5_layBack : GoodIn wsX5_restore (wsV RX5 205 RX5 yX5_layBack wsX5_layBack) := goodIn_app (goodIn_of _ (by decide +kernel)) ggX5_restore_X5_layBack
theorem dX5_restore_0 : decode cX5_restore 0 = .ok (.aload_n 0, 1) := by decide +kernel
theorem dX5_restore_1 : decode cX5_restore 1 = .ok (.getfield 55, 3) := by decide +kernel
theorem dX5_restore_4 : decode cX5_restore 4 = .ok (.aload_n 0, 1) := by decide +kernel
theorem dX5_restore_5 : decode cX5_restore 5 = .ok (.getfield 121, 3) := by decide +kernel
theorem dX5_restore_8 : decode cX5_restore 8 = .ok (.if_icmp .eq 6, 3) := by decide +kernel
theorem dX5_restore_11 : decode cX5_restore 11 = .ok (.bipush (-103), 2) := by decide +kernel
theorem dX5_restore_13 : decode cX5_restore 13 = .ok (.ireturn, 1) := by decide +kernel
theorem dX5_restore_14 : decode cX5_restore 14 = .ok (.aload_n 0, 1) := by decide +kernel
theorem dX5_restore_15 : decode cX5_restore 15 = .ok (.getfield 40, 3) := by decide +kernel
theorem dX5_restore_18 : decode cX5_restore 18 = .ok (.aload_n 0, 1) := by decide +kernel
theorem dX5_restore_19 : decode cX5_restore 19 = .ok (.getfield 16, 3) := by decide +kernel
theorem dX5_restore_22 : decode cX5_restore 22 = .ok (.invokestatic 172, 3) := by decide +kernel
theorem dX5_restore_25 : decode cX5_restore 25 = .ok (.aload_n 0, 1) := by decide +kernel
theorem dX5_restore_26 : decode cX5_restore 26 = .ok (.getfield 46, 3) := by decide +kernel
theorem dX5_restore_29 : decode cX5_restore 29 = .ok (.aload_n 0, 1) := by decide +kernel
theorem dX5_restore_30 : decode cX5_restore 30 = .ok (.getfield 28, 3) := by decide +kernel
theorem dX5_restore_33 : decode cX5_restore 33 = .ok (.invokestatic 172, 3) := by decide +kernel
theorem dX5_restore_36 : decode cX5_restore 36 = .ok (.aload_n 0, 1) := by decide +kernel
theorem dX5_restore_37 : decode cX5_restore 37 = .ok (.aload_n 0, 1) := by decide +kernel
theorem dX5_restore_38 : decode cX5_restore 38 = .ok (.getfield 43, 3) := by decide +kernel
theorem dX5_restore_41 : decode cX5_restore 41 = .ok (.invokevirtual 205, 3) := by decide +kernel
theorem dX5_restore_44 : decode cX5_restore 44 = .ok (.aload_n 0, 1) := by decide +kernel
theorem dX5_restore_45 : decode cX5_restore 45 = .ok (.aload_n 0, 1) := by decide +kernel
theorem dX5_restore_46 : decode cX5_restore 46 = .ok (.getfield 202, 3) := by decide +kernel
theorem dX5_restore_49 : decode cX5_restore 49 = .ok (.putfield 118, 3) := by decide +kernel
theorem dX5_restore_52 : decode cX5_restore 52 = .ok (.aload_n 0, 1) := by decide +kernel
theorem dX5_restore_53 : decode cX5_restore 53 = .ok (.getfield 115, 3) := by decide +kernel
theorem dX5_restore_56 : decode cX5_restore 56 = .ok (.ireturn, 1) := by decide +kernel
theorem dX5_draw_0 : decode cX5_draw 0 = .ok (.aload_n 0, 1) := by decide +kernel
theorem dX5_draw_1 : decode cX5_draw 1 = .ok (.ldc2_w 208, 3) := by decide +kernel
theorem dX5_draw_4 : decode cX5_draw 4 = .ok (.aload_n 0, 1) := by decide +kernel
theorem dX5_draw_5 : decode cX5_draw 5 = .ok (.getfield 210, 3) := by decide +kernel
theorem dX5_draw_8 : decode cX5_draw 8 = .ok (.i2l, 1) := by decide +kernel
theorem dX5_draw_9 : decode cX5_draw 9 = .ok (.lmul, 1) := by decide +kernel
theorem dX5_draw_10 : decode cX5_draw 10 = .ok (.ldc2_w 213, 3) := by decide +kernel
theorem dX5_draw_13 : decode cX5_draw 13 = .ok (.ladd, 1) := by decide +kernel
theorem dX5_draw_14 : decode cX5_draw 14 = .ok (.ldc2_w 215, 3) := by decide +kernel
theorem dX5_draw_17 : decode cX5_draw 17 = .ok (.land, 1) := by decide +kernel
theorem dX5_draw_18 : decode cX5_draw 18 = .ok (.l2i, 1) := by decide +kernel
theorem dX5_draw_19 : decode cX5_draw 19 = .ok (.putfield 210, 3) := by decide +kernel
theorem dX5_draw_22 : decode cX5_draw 22 = .ok (.aload_n 0, 1) := by decide +kernel
theorem dX5_draw_23 : decode cX5_draw 23 = .ok (.getfield 210, 3) := by decide +kernel
theorem dX5_draw_26 : decode cX5_draw 26 = .ok (.ldc 217, 2) := by decide +kernel
theorem dX5_draw_28 : decode cX5_draw 28 = .ok (.idiv, 1) := by decide +kernel
theorem dX5_draw_29 : decode cX5_draw 29 = .ok (.iload_n 1, 1) := by decide +kernel
theorem dX5_draw_30 : decode cX5_draw 30 = .ok (.irem, 1) := by decide +kernel
theorem dX5_draw_31 : decode cX5_draw 31 = .ok (.ireturn, 1) := by decide +kernel
set_option maxRecDepth 20000 in
theorem ggX5_sessions_X5_in : GoodIn wsX5_sessions wsX5_in := goodIn_r _ [13] (by decide +kernel) (by decide +kernel)
set_option maxRecDepth 20000 in
theorem gX5_sessions_X5_in : GoodIn wsX5_sessions (va_wsS RX5 64 yX5_in wsX5_in) := goodIn_app (goodIn_of _ (by decide +kernel)) ggX5_sessions_X5_in
set_option maxRecDepth 20000 in
theorem ggX5_sessions_X5_lacks : GoodIn wsX5_sessions wsX5_lacks := goodIn_r _ [17, 7, 66, 67, 68, 69, 70, 71, 72, 73, 74, 75, 76, 77, 78, 79, 80, 81, 82, 83, 84, 85, 86, 87, 88, 89, 90, 91, 92, 93, 94, 95, 96, 97, 98, 99, 100] (by decide +kernel) (by decide +kernel)
set_option maxRecDepth 20000 in
theorem gX5_sessions_X5_lacks : GoodIn wsX5_sessions (wsV RX5 141 RX5 yX5_lacks wsX5_lacks) := goodIn_app (goodIn_of _ (by decide +kernel)) ggX5_sessions_X5_lacks
set_option maxRecDepth 20000 in
theorem ggX5_sessions_X5_copy : GoodIn wsX5_sessions wsX5_copy := goodIn_r _ [20] (by decide +kernel) (by decide +kernel)
set_option maxRecDepth 20000 in
theorem gX5_sessions_X5_copy : GoodIn wsX5_sessions (va_wsS RX5 172 yX5_copy wsX5_copy) := goodIn_app (goodIn_of _ (by decide +kernel)) ggX5_sessions_X5_copy
set_option maxRecDepth 20000 in
theorem ggX5_sessions_X5_layAll : GoodIn wsX5_sessions wsX5_layAll := goodIn_r _ [24, 25, 26, 27, 8, 9, 28, 29, 66, 67, 68, 69, 70, 71, 72, 73, 74, 75, 76, 77, 78, 79, 80, 81, 82, 83, 84, 85, 86, 87, 88, 89, 90, 91, 92, 93, 94, 95, 96, 97, 98, 99, 100] (by decide +kernel) (by decide +kernel)
set_option maxRecDepth 20000 in
theorem gX5_sessions_X5_layAll : GoodIn wsX5_sessions (wsV RX5 198 RX5 yX5_layAll wsX5_layAll) := goodIn_app (goodIn_of _ (by decide +kernel)) ggX5_sessions_X5_layAll
set_option maxRecDepth 20000 in
theorem ggX5_sessions_X5_draw : GoodIn wsX5_sessions wsX5_draw := goodIn_r _ [33, 34, 6, 35, 36, 37, 66, 67, 68, 69, 70, 71, 72, 73, 74, 75, 76, 77, 78, 79, 80, 81, 82, 83, 84, 85, 86, 87, 88, 89, 90, 91, 92, 93, 94, 95, 96, 97, 98, 99, 100] (by decide +kernel) (by decide +kernel)
set_option maxRecDepth 20000 in
theorem gX5_sessions_X5_draw : GoodIn wsX5_sessions (wsV RX5 222 RX5 yX5_draw wsX5_draw) := goodIn_app (goodIn_of _ (by decide +kernel)) ggX5_sessions_X5_draw
set_option maxRecDepth 20000 in
theorem ggX5_sessions_X5_goesBy : GoodIn wsX5_sessions wsX5_goesBy := goodIn_r _ [41, 29, 27, 7, 25, 3, 26, 42, 43, 44, 45, 12, 46, 47, 48, 49, 50, 51, 52, 53, 54, 55, 56, 57, 58, 59, 60, 61, 8, 9, 28, 66, 67, 68, 69, 70, 71, 72, 73, 74, 75, 76, 77, 78, 79, 80, 81, 82, 83, 84, 85, 86, 87, 88, 89, 90, 91, 92, 93, 94, 95, 96, 97, 98, 99, 100] (by decide +kernel) (by decide +kernel)
set_option maxRecDepth 20000 in
theorem gX5_sessions_X5_goesBy : GoodIn wsX5_sessions (wsV RX5 145 RX5 yX5_goesBy wsX5_goesBy) := goodIn_app (goodIn_of _ (by decide +kernel)) ggX5_sessions_X5_goesBy
set_option maxRecDepth 20000 in
theorem ggX5_sessions_X5_layBack : GoodIn wsX5_sessions wsX5_layBack := goodIn_r _ [65, 25, 26, 27, 8, 9, 28, 29, 66, 67, 68, 69, 70, 71, 72, 73, 74, 75, 76, 77, 78, 79, 80, 81, 82, 83, 84, 85, 86, 87, 88, 89, 90, 91, 92, 93, 94, 95, 96, 97, 98, 99, 100] (by decide +kernel) (by decide +kernel)
set_option maxRecDepth 20000 in
theorem gX5_sessions_X5_layBack : GoodIn wsX5_sessions (wsV RX5 205 RX5 yX5_layBack wsX5_layBack) := goodIn_app (goodIn_of _ (by decide +kernel)) ggX5_sessions_X5_layBack
theorem dX5_sessions_0 : decode cX5_sessions 0 = .ok (.iload_n 1, 1) := by decide +kernel
theorem dX5_sessions_1 : decode cX5_sessions 1 = .ok (.i2l, 1) := by decide +kernel
theorem dX5_sessions_2 : decode cX5_sessions 2 = .ok (.lconst 1, 1) := by decide +kernel
theorem dX5_sessions_3 : decode cX5_sessions 3 = .ok (.ldc2_w 218, 3) := by decide +kernel
theorem dX5_sessions_6 : decode cX5_sessions 6 = .ok (.invokestatic 64, 3) := by decide +kernel
theorem dX5_sessions_9 : decode cX5_sessions 9 = .ok (.ifCond .eq 19, 3) := by decide +kernel
theorem dX5_sessions_12 : decode cX5_sessions 12 = .ok (.iload_n 2, 1) := by decide +kernel
theorem dX5_sessions_13 : decode cX5_sessions 13 = .ok (.ifCond .lt 15, 3) := by decide +kernel
theorem dX5_sessions_16 : decode cX5_sessions 16 = .ok (.iload_n 3, 1) := by decide +kernel
theorem dX5_sessions_17 : decode cX5_sessions 17 = .ok (.i2l, 1) := by decide +kernel
theorem dX5_sessions_18 : decode cX5_sessions 18 = .ok (.lconst 0, 1) := by decide +kernel
theorem dX5_sessions_19 : decode cX5_sessions 19 = .ok (.ldc2_w 220, 3) := by decide +kernel
theorem dX5_sessions_22 : decode cX5_sessions 22 = .ok (.invokestatic 64, 3) := by decide +kernel
theorem dX5_sessions_25 : decode cX5_sessions 25 = .ok (.ifCond .ne 6, 3) := by decide +kernel
theorem dX5_sessions_28 : decode cX5_sessions 28 = .ok (.bipush (-102), 2) := by decide +kernel
theorem dX5_sessions_30 : decode cX5_sessions 30 = .ok (.ireturn, 1) := by decide +kernel
theorem dX5_sessions_31 : decode cX5_sessions 31 = .ok (.aload_n 0, 1) := by decide +kernel
theorem dX5_sessions_32 : decode cX5_sessions 32 = .ok (.invokevirtual 141, 3) := by decide +kernel
theorem dX5_sessions_35 : decode cX5_sessions 35 = .ok (.ifCond .eq 6, 3) := by decide +kernel
theorem dX5_sessions_38 : decode cX5_sessions 38 = .ok (.bipush (-103), 2) := by decide +kernel
theorem dX5_sessions_40 : decode cX5_sessions 40 = .ok (.ireturn, 1) := by decide +kernel
theorem dX5_sessions_41 : decode cX5_sessions 41 = .ok (.aload_n 0, 1) := by decide +kernel
theorem dX5_sessions_42 : decode cX5_sessions 42 = .ok (.getfield 16, 3) := by decide +kernel
theorem dX5_sessions_45 : decode cX5_sessions 45 = .ok (.aload_n 0, 1) := by decide +kernel
theorem dX5_sessions_46 : decode cX5_sessions 46 = .ok (.getfield 49, 3) := by decide +kernel
theorem dX5_sessions_49 : decode cX5_sessions 49 = .ok (.invokestatic 172, 3) := by decide +kernel
theorem dX5_sessions_52 : decode cX5_sessions 52 = .ok (.aload_n 0, 1) := by decide +kernel
theorem dX5_sessions_53 : decode cX5_sessions 53 = .ok (.aload_n 0, 1) := by decide +kernel
theorem dX5_sessions_54 : decode cX5_sessions 54 = .ok (.getfield 52, 3) := by decide +kernel
theorem dX5_sessions_57 : decode cX5_sessions 57 = .ok (.invokevirtual 198, 3) := by decide +kernel
theorem dX5_sessions_60 : decode cX5_sessions 60 = .ok (.aload_n 0, 1) := by decide +kernel
theorem dX5_sessions_61 : decode cX5_sessions 61 = .ok (.iload_n 2, 1) := by decide +kernel
theorem dX5_sessions_62 : decode cX5_sessions 62 = .ok (.putfield 210, 3) := by decide +kernel
theorem dX5_sessions_65 : decode cX5_sessions 65 = .ok (.iconst 0, 1) := by decide +kernel
theorem dX5_sessions_66 : decode cX5_sessions 66 = .ok (.istore 4, 2) := by decide +kernel
theorem dX5_sessions_68 : decode cX5_sessions 68 = .ok (.iload 4, 2) := by decide +kernel
theorem dX5_sessions_70 : decode cX5_sessions 70 = .ok (.iload_n 1, 1) := by decide +kernel
theorem dX5_sessions_71 : decode cX5_sessions 71 = .ok (.if_icmp .ge 59, 3) := by decide +kernel
theorem dX5_sessions_74 : decode cX5_sessions 74 = .ok (.iconst 0, 1) := by decide +kernel
theorem dX5_sessions_75 : decode cX5_sessions 75 = .ok (.istore 5, 2) := by decide +kernel
theorem dX5_sessions_77 : decode cX5_sessions 77 = .ok (.iconst 0, 1) := by decide +kernel
theorem dX5_sessions_78 : decode cX5_sessions 78 = .ok (.istore 6, 2) := by decide +kernel
theorem dX5_sessions_80 : decode cX5_sessions 80 = .ok (.iload 6, 2) := by decide +kernel
theorem dX5_sessions_82 : decode cX5_sessions 82 = .ok (.aload_n 0, 1) := by decide +kernel
theorem dX5_sessions_83 : decode cX5_sessions 83 = .ok (.getfield 94, 3) := by decide +kernel
theorem dX5_sessions_86 : decode cX5_sessions 86 = .ok (.if_icmp .ge 30, 3) := by decide +kernel
theorem dX5_sessions_89 : decode cX5_sessions 89 = .ok (.iload 5, 2) := by decide +kernel
theorem dX5_sessions_91 : decode cX5_sessions 91 = .ok (.aload_n 0, 1) := by decide +kernel
theorem dX5_sessions_92 : decode cX5_sessions 92 = .ok (.iconst 3, 1) := by decide +kernel
theorem dX5_sessions_93 : decode cX5_sessions 93 = .ok (.invokevirtual 222, 3) := by decide +kernel
theorem dX5_sessions_96 : decode cX5_sessions 96 = .ok (.ifCond .ne 10, 3) := by decide +kernel
theorem dX5_sessions_99 : decode cX5_sessions 99 = .ok (.iconst 1, 1) := by decide +kernel
theorem dX5_sessions_100 : decode cX5_sessions 100 = .ok (.iload 6, 2) := by decide +kernel
theorem dX5_sessions_102 : decode cX5_sessions 102 = .ok (.ishl, 1) := by decide +kernel
theorem dX5_sessions_103 : decode cX5_sessions 103 = .ok (.goto 4, 3) := by decide +kernel
theorem dX5_sessions_106 : decode cX5_sessions 106 = .ok (.iconst 0, 1) := by decide +kernel
theorem dX5_sessions_107 : decode cX5_sessions 107 = .ok (.ior, 1) := by decide +kernel
theorem dX5_sessions_108 : decode cX5_sessions 108 = .ok (.istore 5, 2) := by decide +kernel
theorem dX5_sessions_110 : decode cX5_sessions 110 = .ok (.iinc 6 1, 3) := by decide +kernel
theorem dX5_sessions_113 : decode cX5_sessions 113 = .ok (.goto (-33), 3) := by decide +kernel
theorem dX5_sessions_116 : decode cX5_sessions 116 = .ok (.aload_n 0, 1) := by decide +kernel
theorem dX5_sessions_117 : decode cX5_sessions 117 = .ok (.iload 5, 2) := by decide +kernel
theorem dX5_sessions_119 : decode cX5_sessions 119 = .ok (.invokevirtual 145, 3) := by decide +kernel
theorem dX5_sessions_122 : decode cX5_sessions 122 = .ok (.istore 6, 2) := by decide +kernel
theorem dX5_sessions_124 : decode cX5_sessions 124 = .ok (.iinc 4 1, 3) := by decide +kernel
theorem dX5_sessions_127 : decode cX5_sessions 127 = .ok (.goto (-59), 3) := by decide +kernel
theorem dX5_sessions_130 : decode cX5_sessions 130 = .ok (.aload_n 0, 1) := by decide +kernel
theorem dX5_sessions_131 : decode cX5_sessions 131 = .ok (.getfield 106, 3) := by decide +kernel
theorem dX5_sessions_134 : decode cX5_sessions 134 = .ok (.aload_n 0, 1) := by decide +kernel
theorem dX5_sessions_135 : decode cX5_sessions 135 = .ok (.getfield 52, 3) := by decide +kernel
theorem dX5_sessions_138 : decode cX5_sessions 138 = .ok (.iconst 3, 1) := by decide +kernel
theorem dX5_sessions_139 : decode cX5_sessions 139 = .ok (.iaload, 1) := by decide +kernel
theorem dX5_sessions_140 : decode cX5_sessions 140 = .ok (.isub, 1) := by decide +kernel
theorem dX5_sessions_141 : decode cX5_sessions 141 = .ok (.istore 4, 2) := by decide +kernel
theorem dX5_sessions_143 : decode cX5_sessions 143 = .ok (.aload_n 0, 1) := by decide +kernel
theorem dX5_sessions_144 : decode cX5_sessions 144 = .ok (.getfield 109, 3) := by decide +kernel
theorem dX5_sessions_147 : decode cX5_sessions 147 = .ok (.aload_n 0, 1) := by decide +kernel
theorem dX5_sessions_148 : decode cX5_sessions 148 = .ok (.getfield 52, 3) := by decide +kernel
theorem dX5_sessions_151 : decode cX5_sessions 151 = .ok (.iconst 4, 1) := by decide +kernel
theorem dX5_sessions_152 : decode cX5_sessions 152 = .ok (.iaload, 1) := by decide +kernel
theorem dX5_sessions_153 : decode cX5_sessions 153 = .ok (.isub, 1) := by decide +kernel
theorem dX5_sessions_154 : decode cX5_sessions 154 = .ok (.istore 5, 2) := by decide +kernel
theorem dX5_sessions_156 : decode cX5_sessions 156 = .ok (.aload_n 0, 1) := by decide +kernel
theorem dX5_sessions_157 : decode cX5_sessions 157 = .ok (.getfield 49, 3) := by decide +kernel
theorem dX5_sessions_160 : decode cX5_sessions 160 = .ok (.aload_n 0, 1) := by decide +kernel
theorem dX5_sessions_161 : decode cX5_sessions 161 = .ok (.getfield 16, 3) := by decide +kernel
theorem dX5_sessions_164 : decode cX5_sessions 164 = .ok (.invokestatic 172, 3) := by decide +kernel
theorem dX5_sessions_167 : decode cX5_sessions 167 = .ok (.aload_n 0, 1) := by decide +kernel
theorem dX5_sessions_168 : decode cX5_sessions 168 = .ok (.aload_n 0, 1) := by decide +kernel
theorem dX5_sessions_169 : decode cX5_sessions 169 = .ok (.getfield 52, 3) := by decide +kernel
theorem dX5_sessions_172 : decode cX5_sessions 172 = .ok (.invokevirtual 205, 3) := by decide +kernel
theorem dX5_sessions_175 : decode cX5_sessions 175 = .ok (.iload_n 3, 1) := by decide +kernel
theorem dX5_sessions_176 : decode cX5_sessions 176 = .ok (.ifCond .ne 8, 3) := by decide +kernel
theorem dX5_sessions_179 : decode cX5_sessions 179 = .ok (.iload 4, 2) := by decide +kernel
theorem dX5_sessions_181 : decode cX5_sessions 181 = .ok (.goto 17, 3) := by decide +kernel
theorem dX5_sessions_184 : decode cX5_sessions 184 = .ok (.iload_n 3, 1) := by decide +kernel
theorem dX5_sessions_185 : decode cX5_sessions 185 = .ok (.iconst 1, 1) := by decide +kernel
theorem dX5_sessions_186 : decode cX5_sessions 186 = .ok (.if_icmp .ne 8, 3) := by decide +kernel
theorem dX5_sessions_189 : decode cX5_sessions 189 = .ok (.iload 5, 2) := by decide +kernel
theorem dX5_sessions_191 : decode cX5_sessions 191 = .ok (.goto 7, 3) := by decide +kernel
theorem dX5_sessions_194 : decode cX5_sessions 194 = .ok (.aload_n 0, 1) := by decide +kernel
theorem dX5_sessions_195 : decode cX5_sessions 195 = .ok (.getfield 210, 3) := by decide +kernel
theorem dX5_sessions_198 : decode cX5_sessions 198 = .ok (.ireturn, 1) := by decide +kernel
theorem dX5_countOf_0 : decode cX5_countOf 0 = .ok (.aload_n 0, 1) := by decide +kernel
theorem dX5_countOf_1 : decode cX5_countOf 1 = .ok (.getfield 59, 3) := by decide +kernel
theorem dX5_countOf_4 : decode cX5_countOf 4 = .ok (.bipush 8, 2) := by decide +kernel
theorem dX5_countOf_6 : decode cX5_countOf 6 = .ok (.idiv, 1) := by decide +kernel
theorem dX5_countOf_7 : decode cX5_countOf 7 = .ok (.istore_n 2, 1) := by decide +kernel
theorem dX5_countOf_8 : decode cX5_countOf 8 = .ok (.aload_n 0, 1) := by decide +kernel
theorem dX5_countOf_9 : decode cX5_countOf 9 = .ok (.getfield 59, 3) := by decide +kernel
theorem dX5_countOf_12 : decode cX5_countOf 12 = .ok (.bipush 8, 2) := by decide +kernel
theorem dX5_countOf_14 : decode cX5_countOf 14 = .ok (.irem, 1) := by decide +kernel
theorem dX5_countOf_15 : decode cX5_countOf 15 = .ok (.istore_n 3, 1) := by decide +kernel
theorem dX5_countOf_16 : decode cX5_countOf 16 = .ok (.iload_n 1, 1) := by decide +kernel
theorem dX5_countOf_17 : decode cX5_countOf 17 = .ok (.tableswitch 137 0 11 #[63, 68, 73, 85, 97, 102, 107, 112, 117, 122, 127, 132], 63) := by decide +kernel
theorem dX5_countOf_80 : decode cX5_countOf 80 = .ok (.aload_n 0, 1) := by decide +kernel
theorem dX5_countOf_81 : decode cX5_countOf 81 = .ok (.getfield 94, 3) := by decide +kernel
theorem dX5_countOf_84 : decode cX5_countOf 84 = .ok (.ireturn, 1) := by decide +kernel
theorem dX5_countOf_85 : decode cX5_countOf 85 = .ok (.aload_n 0, 1) := by decide +kernel
theorem dX5_countOf_86 : decode cX5_countOf 86 = .ok (.getfield 97, 3) := by decide +kernel
theorem dX5_countOf_89 : decode cX5_countOf 89 = .ok (.ireturn, 1) := by decide +kernel
theorem dX5_countOf_90 : decode cX5_countOf 90 = .ok (.iload_n 2, 1) := by decide +kernel
theorem dX5_countOf_91 : decode cX5_countOf 91 = .ok (.bipush 7, 2) := by decide +kernel
theorem dX5_countOf_93 : decode cX5_countOf 93 = .ok (.if_icmp .ne 7, 3) := by decide +kernel
theorem dX5_countOf_96 : decode cX5_countOf 96 = .ok (.iconst (-1), 1) := by decide +kernel
theorem dX5_countOf_97 : decode cX5_countOf 97 = .ok (.goto 4, 3) := by decide +kernel
theorem dX5_countOf_100 : decode cX5_countOf 100 = .ok (.iload_n 2, 1) := by decide +kernel
theorem dX5_countOf_101 : decode cX5_countOf 101 = .ok (.ireturn, 1) := by decide +kernel
theorem dX5_countOf_102 : decode cX5_countOf 102 = .ok (.iload_n 3, 1) := by decide +kernel
theorem dX5_countOf_103 : decode cX5_countOf 103 = .ok (.bipush 7, 2) := by decide +kernel
theorem dX5_countOf_105 : decode cX5_countOf 105 = .ok (.if_icmp .ne 7, 3) := by decide +kernel
theorem dX5_countOf_108 : decode cX5_countOf 108 = .ok (.iconst (-1), 1) := by decide +kernel
theorem dX5_countOf_109 : decode cX5_countOf 109 = .ok (.goto 4, 3) := by decide +kernel
theorem dX5_countOf_112 : decode cX5_countOf 112 = .ok (.iload_n 3, 1) := by decide +kernel
theorem dX5_countOf_113 : decode cX5_countOf 113 = .ok (.ireturn, 1) := by decide +kernel
theorem dX5_countOf_114 : decode cX5_countOf 114 = .ok (.aload_n 0, 1) := by decide +kernel
theorem dX5_countOf_115 : decode cX5_countOf 115 = .ok (.getfield 103, 3) := by decide +kernel
theorem dX5_countOf_118 : decode cX5_countOf 118 = .ok (.ireturn, 1) := by decide +kernel
theorem dX5_countOf_119 : decode cX5_countOf 119 = .ok (.aload_n 0, 1) := by decide +kernel
theorem dX5_countOf_120 : decode cX5_countOf 120 = .ok (.getfield 106, 3) := by decide +kernel
theorem dX5_countOf_123 : decode cX5_countOf 123 = .ok (.ireturn, 1) := by decide +kernel
theorem dX5_countOf_124 : decode cX5_countOf 124 = .ok (.aload_n 0, 1) := by decide +kernel
theorem dX5_countOf_125 : decode cX5_countOf 125 = .ok (.getfield 109, 3) := by decide +kernel
theorem dX5_countOf_128 : decode cX5_countOf 128 = .ok (.ireturn, 1) := by decide +kernel
theorem dX5_countOf_129 : decode cX5_countOf 129 = .ok (.aload_n 0, 1) := by decide +kernel
theorem dX5_countOf_130 : decode cX5_countOf 130 = .ok (.getfield 112, 3) := by decide +kernel
theorem dX5_countOf_133 : decode cX5_countOf 133 = .ok (.ireturn, 1) := by decide +kernel
theorem dX5_countOf_134 : decode cX5_countOf 134 = .ok (.aload_n 0, 1) := by decide +kernel
theorem dX5_countOf_135 : decode cX5_countOf 135 = .ok (.getfield 115, 3) := by decide +kernel
theorem dX5_countOf_138 : decode cX5_countOf 138 = .ok (.ireturn, 1) := by decide +kernel
theorem dX5_countOf_139 : decode cX5_countOf 139 = .ok (.aload_n 0, 1) := by decide +kernel
theorem dX5_countOf_140 : decode cX5_countOf 140 = .ok (.getfield 118, 3) := by decide +kernel
theorem dX5_countOf_143 : decode cX5_countOf 143 = .ok (.ireturn, 1) := by decide +kernel
theorem dX5_countOf_144 : decode cX5_countOf 144 = .ok (.aload_n 0, 1) := by decide +kernel
theorem dX5_countOf_145 : decode cX5_countOf 145 = .ok (.getfield 68, 3) := by decide +kernel
theorem dX5_countOf_148 : decode cX5_countOf 148 = .ok (.ireturn, 1) := by decide +kernel
theorem dX5_countOf_149 : decode cX5_countOf 149 = .ok (.aload_n 0, 1) := by decide +kernel
theorem dX5_countOf_150 : decode cX5_countOf 150 = .ok (.getfield 121, 3) := by decide +kernel
theorem dX5_countOf_153 : decode cX5_countOf 153 = .ok (.ireturn, 1) := by decide +kernel
theorem dX5_countOf_154 : decode cX5_countOf 154 = .ok (.bipush (-102), 2) := by decide +kernel
theorem dX5_countOf_156 : decode cX5_countOf 156 = .ok (.ireturn, 1) := by decide +kernel
set_option maxRecDepth 20000 in
theorem ggX5_count_X5_countOf : GoodIn wsX5_count wsX5_countOf := goodIn_r _ [5, 6, 7, 8, 9, 10, 11, 12, 13, 14, 15, 16, 17, 18, 19, 20, 21, 22, 23, 24, 25, 26, 27, 28, 29, 30, 31, 32, 33, 34, 35, 36, 37, 38, 39, 40, 41, 42, 43, 44, 45, 46, 47, 48, 49, 50, 51] (by decide +kernel) (by decide +kernel)
set_option maxRecDepth 20000 in
theorem gX5_count_X5_countOf : GoodIn wsX5_count (wsV RX5 225 RX5 yX5_countOf wsX5_countOf) := goodIn_app (goodIn_of _ (by decide +kernel)) ggX5_count_X5_countOf
theorem dX5_count_0 : decode cX5_count 0 = .ok (.aload_n 0, 1) := by decide +kernel
theorem dX5_count_1 : decode cX5_count 1 = .ok (.iload_n 1, 1) := by decide +kernel
theorem dX5_count_2 : decode cX5_count 2 = .ok (.invokevirtual 225, 3) := by decide +kernel
theorem dX5_count_5 : decode cX5_count 5 = .ok (.ireturn, 1) := by decide +kernel
theorem dX5_say_0 : decode cX5_say 0 = .ok (.aload_n 0, 1) := by decide +kernel
theorem dX5_say_1 : decode cX5_say 1 = .ok (.ldc2_w 228, 3) := by decide +kernel
theorem dX5_say_4 : decode cX5_say 4 = .ok (.aload_n 0, 1) := by decide +kernel
theorem dX5_say_5 : decode cX5_say 5 = .ok (.getfield 230, 3) := by decide +kernel
theorem dX5_say_8 : decode cX5_say 8 = .ok (.lmul, 1) := by decide +kernel
theorem dX5_say_9 : decode cX5_say 9 = .ok (.lload_n 1, 1) := by decide +kernel
theorem dX5_say_10 : decode cX5_say 10 = .ok (.ladd, 1) := by decide +kernel
theorem dX5_say_11 : decode cX5_say 11 = .ok (.putfield 230, 3) := by decide +kernel
theorem dX5_say_14 : decode cX5_say 14 = .ok (.return_, 1) := by decide +kernel
set_option maxRecDepth 20000 in
theorem ggX5_sayCourt_X5_playOf : GoodIn wsX5_sayCourt wsX5_playOf := goodIn_r _ [5, 6, 7, 8, 9, 4, 10, 11, 12, 13, 14, 15, 16, 17, 18, 19, 20, 21, 22, 23, 24, 25, 26, 27, 28, 29, 30, 31, 32, 33, 34, 35, 36, 37, 38, 66, 67, 68, 69, 70, 71, 72, 73, 74, 75, 76, 77, 78, 79, 80, 81, 82, 83, 84, 85, 86, 87, 88, 89, 90, 91, 92, 93, 94, 95, 96, 97, 98, 99, 100] (by decide +kernel) (by decide +kernel)
set_option maxRecDepth 20000 in
theorem gX5_sayCourt_X5_playOf : GoodIn wsX5_sayCourt (wsV RX5 181 RX5 yX5_playOf wsX5_playOf) := goodIn_app (goodIn_of _ (by decide +kernel)) ggX5_sayCourt_X5_playOf
set_option maxRecDepth 20000 in
theorem ggX5_sayCourt_X5_say : GoodIn wsX5_sayCourt wsX5_say := goodIn_r _ [42, 43, 44, 66, 67, 68, 69, 70, 71, 72, 73, 74, 75, 76, 77, 78, 79, 80, 81, 82, 83, 84, 85, 86, 87, 88, 89, 90, 91, 92, 93, 94, 95, 96, 97, 98, 99, 100] (by decide +kernel) (by decide +kernel)
set_option maxRecDepth 20000 in
theorem gX5_sayCourt_X5_say : GoodIn wsX5_sayCourt (wsV RX5 234 RX5 yX5_say wsX5_say) := goodIn_app (goodIn_of _ (by decide +kernel)) ggX5_sayCourt_X5_say
set_option maxRecDepth 20000 in
theorem ggX5_sayCourt_X5_rowsOf : GoodIn wsX5_sayCourt wsX5_rowsOf := goodIn_r _ [48, 49, 50, 51, 52, 4, 53, 54, 15, 12, 55, 56, 57, 58, 59, 60, 27, 28, 29, 30, 13, 31, 32, 33, 34, 35, 66, 67, 68, 69, 70, 71, 72, 73, 74, 75, 76, 77, 78, 79, 80, 81, 82, 83, 84, 85, 86, 87, 88, 89, 90, 91, 92, 93, 94, 95, 96, 97, 98, 99, 100] (by decide +kernel) (by decide +kernel)
set_option maxRecDepth 20000 in
theorem gX5_sayCourt_X5_rowsOf : GoodIn wsX5_sayCourt (wsV RX5 192 RX5 yX5_rowsOf wsX5_rowsOf) := goodIn_app (goodIn_of _ (by decide +kernel)) ggX5_sayCourt_X5_rowsOf
set_option maxRecDepth 20000 in
theorem ggX5_sayCourt_X5_whenOf : GoodIn wsX5_sayCourt wsX5_whenOf := goodIn_r _ [64, 65, 49, 54, 50, 51, 52, 4, 53, 15, 12, 55, 56, 57, 58, 59, 60, 27, 28, 29, 30, 13, 31, 32, 33, 34, 35, 66, 67, 68, 69, 70, 71, 72, 73, 74, 75, 76, 77, 78, 79, 80, 81, 82, 83, 84, 85, 86, 87, 88, 89, 90, 91, 92, 93, 94, 95, 96, 97, 98, 99, 100] (by decide +kernel) (by decide +kernel)
set_option maxRecDepth 20000 in
theorem gX5_sayCourt_X5_whenOf : GoodIn wsX5_sayCourt (wsV RX5 195 RX5 yX5_whenOf wsX5_whenOf) := goodIn_app (goodIn_of _ (by decide +kernel)) ggX5_sayCourt_X5_whenOf
theorem dX5_sayCourt_0 : decode cX5_sayCourt 0 = .ok (.iconst 1, 1) := by decide +kernel
theorem dX5_sayCourt_1 : decode cX5_sayCourt 1 = .ok (.istore_n 1, 1) := by decide +kernel
theorem dX5_sayCourt_2 : decode cX5_sayCourt 2 = .ok (.iload_n 1, 1) := by decide +kernel
theorem dX5_sayCourt_3 : decode cX5_sayCourt 3 = .ok (.iconst 5, 1) := by decide +kernel
theorem dX5_sayCourt_4 : decode cX5_sayCourt 4 = .ok (.if_icmp .ge 31, 3) := by decide +kernel
theorem dX5_sayCourt_7 : decode cX5_sayCourt 7 = .ok (.aload_n 0, 1) := by decide +kernel
theorem dX5_sayCourt_8 : decode cX5_sayCourt 8 = .ok (.aload_n 0, 1) := by decide +kernel
theorem dX5_sayCourt_9 : decode cX5_sayCourt 9 = .ok (.iload_n 1, 1) := by decide +kernel
theorem dX5_sayCourt_10 : decode cX5_sayCourt 10 = .ok (.iconst 0, 1) := by decide +kernel
theorem dX5_sayCourt_11 : decode cX5_sayCourt 11 = .ok (.invokevirtual 181, 3) := by decide +kernel
theorem dX5_sayCourt_14 : decode cX5_sayCourt 14 = .ok (.i2l, 1) := by decide +kernel
theorem dX5_sayCourt_15 : decode cX5_sayCourt 15 = .ok (.invokevirtual 234, 3) := by decide +kernel
theorem dX5_sayCourt_18 : decode cX5_sayCourt 18 = .ok (.aload_n 0, 1) := by decide +kernel
theorem dX5_sayCourt_19 : decode cX5_sayCourt 19 = .ok (.aload_n 0, 1) := by decide +kernel
theorem dX5_sayCourt_20 : decode cX5_sayCourt 20 = .ok (.iload_n 1, 1) := by decide +kernel
theorem dX5_sayCourt_21 : decode cX5_sayCourt 21 = .ok (.iconst 1, 1) := by decide +kernel
theorem dX5_sayCourt_22 : decode cX5_sayCourt 22 = .ok (.invokevirtual 181, 3) := by decide +kernel
theorem dX5_sayCourt_25 : decode cX5_sayCourt 25 = .ok (.i2l, 1) := by decide +kernel
theorem dX5_sayCourt_26 : decode cX5_sayCourt 26 = .ok (.invokevirtual 234, 3) := by decide +kernel
theorem dX5_sayCourt_29 : decode cX5_sayCourt 29 = .ok (.iinc 1 1, 3) := by decide +kernel
theorem dX5_sayCourt_32 : decode cX5_sayCourt 32 = .ok (.goto (-30), 3) := by decide +kernel
theorem dX5_sayCourt_35 : decode cX5_sayCourt 35 = .ok (.iconst 0, 1) := by decide +kernel
theorem dX5_sayCourt_36 : decode cX5_sayCourt 36 = .ok (.istore_n 1, 1) := by decide +kernel
theorem dX5_sayCourt_37 : decode cX5_sayCourt 37 = .ok (.iload_n 1, 1) := by decide +kernel
theorem dX5_sayCourt_38 : decode cX5_sayCourt 38 = .ok (.iconst 5, 1) := by decide +kernel
theorem dX5_sayCourt_39 : decode cX5_sayCourt 39 = .ok (.if_icmp .ge 31, 3) := by decide +kernel
theorem dX5_sayCourt_42 : decode cX5_sayCourt 42 = .ok (.aload_n 0, 1) := by decide +kernel
theorem dX5_sayCourt_43 : decode cX5_sayCourt 43 = .ok (.aload_n 0, 1) := by decide +kernel
theorem dX5_sayCourt_44 : decode cX5_sayCourt 44 = .ok (.iload_n 1, 1) := by decide +kernel
theorem dX5_sayCourt_45 : decode cX5_sayCourt 45 = .ok (.iconst 0, 1) := by decide +kernel
theorem dX5_sayCourt_46 : decode cX5_sayCourt 46 = .ok (.invokevirtual 192, 3) := by decide +kernel
theorem dX5_sayCourt_49 : decode cX5_sayCourt 49 = .ok (.i2l, 1) := by decide +kernel
theorem dX5_sayCourt_50 : decode cX5_sayCourt 50 = .ok (.invokevirtual 234, 3) := by decide +kernel
theorem dX5_sayCourt_53 : decode cX5_sayCourt 53 = .ok (.aload_n 0, 1) := by decide +kernel
theorem dX5_sayCourt_54 : decode cX5_sayCourt 54 = .ok (.aload_n 0, 1) := by decide +kernel
theorem dX5_sayCourt_55 : decode cX5_sayCourt 55 = .ok (.iload_n 1, 1) := by decide +kernel
theorem dX5_sayCourt_56 : decode cX5_sayCourt 56 = .ok (.iconst 1, 1) := by decide +kernel
theorem dX5_sayCourt_57 : decode cX5_sayCourt 57 = .ok (.invokevirtual 192, 3) := by decide +kernel
theorem dX5_sayCourt_60 : decode cX5_sayCourt 60 = .ok (.i2l, 1) := by decide +kernel
theorem dX5_sayCourt_61 : decode cX5_sayCourt 61 = .ok (.invokevirtual 234, 3) := by decide +kernel
theorem dX5_sayCourt_64 : decode cX5_sayCourt 64 = .ok (.iinc 1 1, 3) := by decide +kernel
theorem dX5_sayCourt_67 : decode cX5_sayCourt 67 = .ok (.goto (-30), 3) := by decide +kernel
theorem dX5_sayCourt_70 : decode cX5_sayCourt 70 = .ok (.aload_n 0, 1) := by decide +kernel
theorem dX5_sayCourt_71 : decode cX5_sayCourt 71 = .ok (.aload_n 0, 1) := by decide +kernel
theorem dX5_sayCourt_72 : decode cX5_sayCourt 72 = .ok (.invokevirtual 195, 3) := by decide +kernel
theorem dX5_sayCourt_75 : decode cX5_sayCourt 75 = .ok (.i2l, 1) := by decide +kernel
theorem dX5_sayCourt_76 : decode cX5_sayCourt 76 = .ok (.invokevirtual 234, 3) := by decide +kernel
theorem dX5_sayCourt_79 : decode cX5_sayCourt 79 = .ok (.return_, 1) := by decide +kernel
set_option maxRecDepth 20000 in
theorem ggX5_digest_X5_tell : GoodIn wsX5_digest wsX5_tell := goodIn_r _ [10, 11, 12, 13, 14, 15, 16, 9, 17, 18, 19, 20, 21, 22, 23, 24, 25, 26, 3, 27, 28, 29, 30, 105, 106, 107, 108, 109, 110, 111, 112, 113, 114, 115, 116, 117, 118, 119, 120, 121, 122, 123, 124, 125, 126, 127, 128, 129, 130, 131, 132, 133, 134, 135, 136, 137, 138, 139] (by decide +kernel) (by decide +kernel)
set_option maxRecDepth 20000 in
theorem gX5_digest_X5_tell : GoodIn wsX5_digest (wsV RX5 158 RX5 yX5_tell wsX5_tell) := goodIn_app (goodIn_of _ (by decide +kernel)) ggX5_digest_X5_tell
set_option maxRecDepth 20000 in
theorem ggX5_digest_X5_say : GoodIn wsX5_digest wsX5_say := goodIn_r _ [34, 35, 2, 105, 106, 107, 108, 109, 110, 111, 112, 113, 114, 115, 116, 117, 118, 119, 120, 121, 122, 123, 124, 125, 126, 127, 128, 129, 130, 131, 132, 133, 134, 135, 136, 137, 138, 139] (by decide +kernel) (by decide +kernel)
set_option maxRecDepth 20000 in
theorem gX5_digest_X5_say : GoodIn wsX5_digest (wsV RX5 234 RX5 yX5_say wsX5_say) := goodIn_app (goodIn_of _ (by decide +kernel)) ggX5_digest_X5_say
set_option maxRecDepth 20000 in
theorem ggX5_digest_X5_firstOf : GoodIn wsX5_digest wsX5_firstOf := goodIn_r _ [39, 13, 3, 18, 19, 20, 9, 21, 22, 23, 24, 25, 26, 14, 15, 16, 17, 11, 12, 27, 28, 29, 30, 105, 106, 107, 108, 109, 110, 111, 112, 113, 114, 115, 116, 117, 118, 119, 120, 121, 122, 123, 124, 125, 126, 127, 128, 129, 130, 131, 132, 133, 134, 135, 136, 137, 138, 139] (by decide +kernel) (by decide +kernel)
set_option maxRecDepth 20000 in
theorem gX5_digest_X5_firstOf : GoodIn wsX5_digest (wsV RX5 163 RX5 yX5_firstOf wsX5_firstOf) := goodIn_app (goodIn_of _ (by decide +kernel)) ggX5_digest_X5_firstOf
set_option maxRecDepth 20000 in
theorem ggX5_digest_X5_lacks : GoodIn wsX5_digest wsX5_lacks := goodIn_r _ [43, 3, 105, 106, 107, 108, 109, 110, 111, 112, 113, 114, 115, 116, 117, 118, 119, 120, 121, 122, 123, 124, 125, 126, 127, 128, 129, 130, 131, 132, 133, 134, 135, 136, 137, 138, 139] (by decide +kernel) (by decide +kernel)
set_option maxRecDepth 20000 in
theorem gX5_digest_X5_lacks : GoodIn wsX5_digest (wsV RX5 141 RX5 yX5_lacks wsX5_lacks) := goodIn_app (goodIn_of _ (by decide +kernel)) ggX5_digest_X5_lacks
set_option maxRecDepth 20000 in
theorem ggX5_digest_X5_sayCourt : GoodIn wsX5_digest wsX5_sayCourt := goodIn_r _ [47, 48, 49, 50, 9, 51, 52, 53, 54, 55, 56, 57, 3, 11, 58, 13, 59, 60, 61, 62, 63, 64, 65, 66, 67, 68, 69, 14, 15, 16, 17, 12, 27, 28, 29, 30, 70, 71, 72, 31, 32, 33, 34, 35, 2, 73, 74, 75, 76, 77, 78, 79, 80, 81, 82, 83, 84, 85, 86, 87, 88, 89, 90, 91, 92, 93, 105, 106, 107, 108, 109, 110, 111, 112, 113, 114, 115, 116, 117, 118, 119, 120, 121, 122, 123, 124, 125, 126, 127, 128, 129, 130, 131, 132, 133, 134, 135, 136, 137, 138, 139] (by decide +kernel) (by decide +kernel)
set_option maxRecDepth 20000 in
theorem gX5_digest_X5_sayCourt : GoodIn wsX5_digest (wsV RX5 240 RX5 yX5_sayCourt wsX5_sayCourt) := goodIn_app (goodIn_of _ (by decide +kernel)) ggX5_digest_X5_sayCourt
set_option maxRecDepth 20000 in
theorem ggX5_digest_X5_countOf : GoodIn wsX5_digest wsX5_countOf := goodIn_r _ [97, 13, 3, 98, 99, 100, 101, 102, 103, 87, 4, 104, 105, 106, 107, 108, 109, 110, 111, 112, 113, 114, 115, 116, 117, 118, 119, 120, 121, 122, 123, 124, 125, 126, 127, 128, 129, 130, 131, 132, 133, 134, 135, 136, 137, 138, 139] (by decide +kernel) (by decide +kernel)
set_option maxRecDepth 20000 in
theorem gX5_digest_X5_countOf : GoodIn wsX5_digest (wsV RX5 225 RX5 yX5_countOf wsX5_countOf) := goodIn_app (goodIn_of _ (by decide +kernel)) ggX5_digest_X5_countOf
theorem dX5_digest_0 : decode cX5_digest 0 = .ok (.aload_n 0, 1) := by decide +kernel
theorem dX5_digest_1 : decode cX5_digest 1 = .ok (.ldc2_w 238, 3) := by decide +kernel
theorem dX5_digest_4 : decode cX5_digest 4 = .ok (.putfield 230, 3) := by decide +kernel
theorem dX5_digest_7 : decode cX5_digest 7 = .ok (.iconst 0, 1) := by decide +kernel
theorem dX5_digest_8 : decode cX5_digest 8 = .ok (.istore_n 1, 1) := by decide +kernel
theorem dX5_digest_9 : decode cX5_digest 9 = .ok (.iload_n 1, 1) := by decide +kernel
theorem dX5_digest_10 : decode cX5_digest 10 = .ok (.aload_n 0, 1) := by decide +kernel
theorem dX5_digest_11 : decode cX5_digest 11 = .ok (.getfield 94, 3) := by decide +kernel
theorem dX5_digest_14 : decode cX5_digest 14 = .ok (.if_icmp .ge 44, 3) := by decide +kernel
theorem dX5_digest_17 : decode cX5_digest 17 = .ok (.iconst 0, 1) := by decide +kernel
theorem dX5_digest_18 : decode cX5_digest 18 = .ok (.istore_n 2, 1) := by decide +kernel
theorem dX5_digest_19 : decode cX5_digest 19 = .ok (.iload_n 2, 1) := by decide +kernel
theorem dX5_digest_20 : decode cX5_digest 20 = .ok (.bipush 6, 2) := by decide +kernel
theorem dX5_digest_22 : decode cX5_digest 22 = .ok (.if_icmp .ge 20, 3) := by decide +kernel
theorem dX5_digest_25 : decode cX5_digest 25 = .ok (.aload_n 0, 1) := by decide +kernel
theorem dX5_digest_26 : decode cX5_digest 26 = .ok (.aload_n 0, 1) := by decide +kernel
theorem dX5_digest_27 : decode cX5_digest 27 = .ok (.iload_n 1, 1) := by decide +kernel
theorem dX5_digest_28 : decode cX5_digest 28 = .ok (.iload_n 2, 1) := by decide +kernel
theorem dX5_digest_29 : decode cX5_digest 29 = .ok (.invokevirtual 158, 3) := by decide +kernel
theorem dX5_digest_32 : decode cX5_digest 32 = .ok (.i2l, 1) := by decide +kernel
theorem dX5_digest_33 : decode cX5_digest 33 = .ok (.invokevirtual 234, 3) := by decide +kernel
theorem dX5_digest_36 : decode cX5_digest 36 = .ok (.iinc 2 1, 3) := by decide +kernel
theorem dX5_digest_39 : decode cX5_digest 39 = .ok (.goto (-20), 3) := by decide +kernel
theorem dX5_digest_42 : decode cX5_digest 42 = .ok (.aload_n 0, 1) := by decide +kernel
theorem dX5_digest_43 : decode cX5_digest 43 = .ok (.aload_n 0, 1) := by decide +kernel
theorem dX5_digest_44 : decode cX5_digest 44 = .ok (.iload_n 1, 1) := by decide +kernel
theorem dX5_digest_45 : decode cX5_digest 45 = .ok (.invokevirtual 163, 3) := by decide +kernel
theorem dX5_digest_48 : decode cX5_digest 48 = .ok (.i2l, 1) := by decide +kernel
theorem dX5_digest_49 : decode cX5_digest 49 = .ok (.invokevirtual 234, 3) := by decide +kernel
theorem dX5_digest_52 : decode cX5_digest 52 = .ok (.iinc 1 1, 3) := by decide +kernel
theorem dX5_digest_55 : decode cX5_digest 55 = .ok (.goto (-46), 3) := by decide +kernel
theorem dX5_digest_58 : decode cX5_digest 58 = .ok (.aload_n 0, 1) := by decide +kernel
theorem dX5_digest_59 : decode cX5_digest 59 = .ok (.invokevirtual 141, 3) := by decide +kernel
theorem dX5_digest_62 : decode cX5_digest 62 = .ok (.ifCond .ne 7, 3) := by decide +kernel
theorem dX5_digest_65 : decode cX5_digest 65 = .ok (.aload_n 0, 1) := by decide +kernel
theorem dX5_digest_66 : decode cX5_digest 66 = .ok (.invokevirtual 240, 3) := by decide +kernel
theorem dX5_digest_69 : decode cX5_digest 69 = .ok (.iconst 0, 1) := by decide +kernel
theorem dX5_digest_70 : decode cX5_digest 70 = .ok (.istore_n 1, 1) := by decide +kernel
theorem dX5_digest_71 : decode cX5_digest 71 = .ok (.iload_n 1, 1) := by decide +kernel
theorem dX5_digest_72 : decode cX5_digest 72 = .ok (.aload_n 0, 1) := by decide +kernel
theorem dX5_digest_73 : decode cX5_digest 73 = .ok (.getfield 68, 3) := by decide +kernel
theorem dX5_digest_76 : decode cX5_digest 76 = .ok (.if_icmp .ge 20, 3) := by decide +kernel
theorem dX5_digest_79 : decode cX5_digest 79 = .ok (.aload_n 0, 1) := by decide +kernel
theorem dX5_digest_80 : decode cX5_digest 80 = .ok (.aload_n 0, 1) := by decide +kernel
theorem dX5_digest_81 : decode cX5_digest 81 = .ok (.getfield 7, 3) := by decide +kernel
theorem dX5_digest_84 : decode cX5_digest 84 = .ok (.iload_n 1, 1) := by decide +kernel
theorem dX5_digest_85 : decode cX5_digest 85 = .ok (.iaload, 1) := by decide +kernel
theorem dX5_digest_86 : decode cX5_digest 86 = .ok (.i2l, 1) := by decide +kernel
theorem dX5_digest_87 : decode cX5_digest 87 = .ok (.invokevirtual 234, 3) := by decide +kernel
theorem dX5_digest_90 : decode cX5_digest 90 = .ok (.iinc 1 1, 3) := by decide +kernel
theorem dX5_digest_93 : decode cX5_digest 93 = .ok (.goto (-22), 3) := by decide +kernel
theorem dX5_digest_96 : decode cX5_digest 96 = .ok (.iconst 0, 1) := by decide +kernel
theorem dX5_digest_97 : decode cX5_digest 97 = .ok (.istore_n 1, 1) := by decide +kernel
theorem dX5_digest_98 : decode cX5_digest 98 = .ok (.iload_n 1, 1) := by decide +kernel
theorem dX5_digest_99 : decode cX5_digest 99 = .ok (.bipush 12, 2) := by decide +kernel
theorem dX5_digest_101 : decode cX5_digest 101 = .ok (.if_icmp .ge 19, 3) := by decide +kernel
theorem dX5_digest_104 : decode cX5_digest 104 = .ok (.aload_n 0, 1) := by decide +kernel
theorem dX5_digest_105 : decode cX5_digest 105 = .ok (.aload_n 0, 1) := by decide +kernel
theorem dX5_digest_106 : decode cX5_digest 106 = .ok (.iload_n 1, 1) := by decide +kernel
theorem dX5_digest_107 : decode cX5_digest 107 = .ok (.invokevirtual 225, 3) := by decide +kernel
theorem dX5_digest_110 : decode cX5_digest 110 = .ok (.i2l, 1) := by decide +kernel
theorem dX5_digest_111 : decode cX5_digest 111 = .ok (.invokevirtual 234, 3) := by decide +kernel
theorem dX5_digest_114 : decode cX5_digest 114 = .ok (.iinc 1 1, 3) := by decide +kernel
theorem dX5_digest_117 : decode cX5_digest 117 = .ok (.goto (-19), 3) := by decide +kernel
theorem dX5_digest_120 : decode cX5_digest 120 = .ok (.aload_n 0, 1) := by decide +kernel
theorem dX5_digest_121 : decode cX5_digest 121 = .ok (.getfield 230, 3) := by decide +kernel
theorem dX5_digest_124 : decode cX5_digest 124 = .ok (.lreturn, 1) := by decide +kernel
theorem dJ9_max_7cf53_0 : decode cJ9_max_7cf53 0 = .ok (.iload_n 0, 1) := by decide +kernel
theorem dJ9_max_7cf53_1 : decode cJ9_max_7cf53 1 = .ok (.iload_n 1, 1) := by decide +kernel
theorem dJ9_max_7cf53_2 : decode cJ9_max_7cf53 2 = .ok (.if_icmp .lt 7, 3) := by decide +kernel
theorem dJ9_max_7cf53_5 : decode cJ9_max_7cf53 5 = .ok (.iload_n 0, 1) := by decide +kernel
theorem dJ9_max_7cf53_6 : decode cJ9_max_7cf53 6 = .ok (.goto 4, 3) := by decide +kernel
theorem dJ9_max_7cf53_9 : decode cJ9_max_7cf53 9 = .ok (.iload_n 1, 1) := by decide +kernel
theorem dJ9_max_7cf53_10 : decode cJ9_max_7cf53 10 = .ok (.ireturn, 1) := by decide +kernel
theorem dJ9_min_7cf53_0 : decode cJ9_min_7cf53 0 = .ok (.iload_n 0, 1) := by decide +kernel
theorem dJ9_min_7cf53_1 : decode cJ9_min_7cf53 1 = .ok (.iload_n 1, 1) := by decide +kernel
theorem dJ9_min_7cf53_2 : decode cJ9_min_7cf53 2 = .ok (.if_icmp .gt 7, 3) := by decide +kernel
theorem dJ9_min_7cf53_5 : decode cJ9_min_7cf53 5 = .ok (.iload_n 0, 1) := by decide +kernel
theorem dJ9_min_7cf53_6 : decode cJ9_min_7cf53 6 = .ok (.goto 4, 3) := by decide +kernel
theorem dJ9_min_7cf53_9 : decode cJ9_min_7cf53 9 = .ok (.iload_n 1, 1) := by decide +kernel
theorem dJ9_min_7cf53_10 : decode cJ9_min_7cf53 10 = .ok (.ireturn, 1) := by decide +kernel
theorem dL_law_0 : decode cL_law 0 = .ok (.new 7, 3) := by decide +kernel
theorem dL_law_3 : decode cL_law 3 = .ok (.dup, 1) := by decide +kernel
theorem dL_law_4 : decode cL_law 4 = .ok (.invokespecial 9, 3) := by decide +kernel
theorem dL_law_7 : decode cL_law 7 = .ok (.astore_n 1, 1) := by decide +kernel
theorem dL_law_8 : decode cL_law 8 = .ok (.new 10, 3) := by decide +kernel
theorem dL_law_11 : decode cL_law 11 = .ok (.dup, 1) := by decide +kernel
theorem dL_law_12 : decode cL_law 12 = .ok (.invokespecial 12, 3) := by decide +kernel
theorem dL_law_15 : decode cL_law 15 = .ok (.astore_n 2, 1) := by decide +kernel
theorem dL_law_16 : decode cL_law 16 = .ok (.iconst 0, 1) := by decide +kernel
theorem dL_law_17 : decode cL_law 17 = .ok (.istore_n 3, 1) := by decide +kernel
theorem dL_law_18 : decode cL_law 18 = .ok (.iload_n 3, 1) := by decide +kernel
theorem dL_law_19 : decode cL_law 19 = .ok (.aload_n 0, 1) := by decide +kernel
theorem dL_law_20 : decode cL_law 20 = .ok (.arraylength, 1) := by decide +kernel
theorem dL_law_21 : decode cL_law 21 = .ok (.iconst 4, 1) := by decide +kernel
theorem dL_law_22 : decode cL_law 22 = .ok (.isub, 1) := by decide +kernel
theorem dL_law_23 : decode cL_law 23 = .ok (.if_icmp .gt 518, 3) := by decide +kernel
theorem dL_law_26 : decode cL_law 26 = .ok (.aload_n 0, 1) := by decide +kernel
theorem dL_law_27 : decode cL_law 27 = .ok (.iload_n 3, 1) := by decide +kernel
theorem dL_law_28 : decode cL_law 28 = .ok (.iaload, 1) := by decide +kernel
theorem dL_law_29 : decode cL_law 29 = .ok (.bipush 31, 2) := by decide +kernel
theorem dL_law_31 : decode cL_law 31 = .ok (.iand, 1) := by decide +kernel
theorem dL_law_32 : decode cL_law 32 = .ok (.tableswitch 503 0 17 #[88, 111, 124, 137, 150, 183, 216, 239, 272, 305, 338, 351, 384, 397, 440, 453, 466, 489], 88) := by decide +kernel
theorem dL_law_120 : decode cL_law 120 = .ok (.aload_n 1, 1) := by decide +kernel
theorem dL_law_121 : decode cL_law 121 = .ok (.aload_n 0, 1) := by decide +kernel
theorem dL_law_122 : decode cL_law 122 = .ok (.iload_n 3, 1) := by decide +kernel
theorem dL_law_123 : decode cL_law 123 = .ok (.iconst 1, 1) := by decide +kernel
theorem dL_law_124 : decode cL_law 124 = .ok (.iadd, 1) := by decide +kernel
theorem dL_law_125 : decode cL_law 125 = .ok (.iaload, 1) := by decide +kernel
theorem dL_law_126 : decode cL_law 126 = .ok (.invokevirtual 13, 3) := by decide +kernel
theorem dL_law_129 : decode cL_law 129 = .ok (.aload_n 2, 1) := by decide +kernel
theorem dL_law_130 : decode cL_law 130 = .ok (.aload_n 0, 1) := by decide +kernel
theorem dL_law_131 : decode cL_law 131 = .ok (.iload_n 3, 1) := by decide +kernel
theorem dL_law_132 : decode cL_law 132 = .ok (.iconst 1, 1) := by decide +kernel
theorem dL_law_133 : decode cL_law 133 = .ok (.iadd, 1) := by decide +kernel
theorem dL_law_134 : decode cL_law 134 = .ok (.iaload, 1) := by decide +kernel
theorem dL_law_135 : decode cL_law 135 = .ok (.invokevirtual 17, 3) := by decide +kernel
theorem dL_law_138 : decode cL_law 138 = .ok (.if_icmp .eq 397, 3) := by decide +kernel
theorem dL_law_141 : decode cL_law 141 = .ok (.iconst 0, 1) := by decide +kernel
theorem dL_law_142 : decode cL_law 142 = .ok (.ireturn, 1) := by decide +kernel
theorem dL_law_143 : decode cL_law 143 = .ok (.aload_n 1, 1) := by decide +kernel
theorem dL_law_144 : decode cL_law 144 = .ok (.invokevirtual 18, 3) := by decide +kernel
theorem dL_law_147 : decode cL_law 147 = .ok (.aload_n 2, 1) := by decide +kernel
theorem dL_law_148 : decode cL_law 148 = .ok (.invokevirtual 22, 3) := by decide +kernel
theorem dL_law_151 : decode cL_law 151 = .ok (.if_icmp .eq 384, 3) := by decide +kernel
theorem dL_law_154 : decode cL_law 154 = .ok (.iconst 0, 1) := by decide +kernel
theorem dL_law_155 : decode cL_law 155 = .ok (.ireturn, 1) := by decide +kernel
theorem dL_law_156 : decode cL_law 156 = .ok (.aload_n 1, 1) := by decide +kernel
theorem dL_law_157 : decode cL_law 157 = .ok (.invokevirtual 23, 3) := by decide +kernel
theorem dL_law_160 : decode cL_law 160 = .ok (.aload_n 2, 1) := by decide +kernel
theorem dL_law_161 : decode cL_law 161 = .ok (.invokevirtual 26, 3) := by decide +kernel
theorem dL_law_164 : decode cL_law 164 = .ok (.if_icmp .eq 371, 3) := by decide +kernel
theorem dL_law_167 : decode cL_law 167 = .ok (.iconst 0, 1) := by decide +kernel
theorem dL_law_168 : decode cL_law 168 = .ok (.ireturn, 1) := by decide +kernel
theorem dL_law_169 : decode cL_law 169 = .ok (.aload_n 1, 1) := by decide +kernel
theorem dL_law_170 : decode cL_law 170 = .ok (.invokevirtual 27, 3) := by decide +kernel
theorem dL_law_173 : decode cL_law 173 = .ok (.aload_n 2, 1) := by decide +kernel
theorem dL_law_174 : decode cL_law 174 = .ok (.invokevirtual 30, 3) := by decide +kernel
theorem dL_law_177 : decode cL_law 177 = .ok (.if_icmp .eq 358, 3) := by decide +kernel
theorem dL_law_180 : decode cL_law 180 = .ok (.iconst 0, 1) := by decide +kernel
theorem dL_law_181 : decode cL_law 181 = .ok (.ireturn, 1) := by decide +kernel
theorem dL_law_182 : decode cL_law 182 = .ok (.aload_n 1, 1) := by decide +kernel
theorem dL_law_183 : decode cL_law 183 = .ok (.aload_n 0, 1) := by decide +kernel
theorem dL_law_184 : decode cL_law 184 = .ok (.iload_n 3, 1) := by decide +kernel
theorem dL_law_185 : decode cL_law 185 = .ok (.iconst 1, 1) := by decide +kernel
theorem dL_law_186 : decode cL_law 186 = .ok (.iadd, 1) := by decide +kernel
theorem dL_law_187 : decode cL_law 187 = .ok (.iaload, 1) := by decide +kernel
theorem dL_law_188 : decode cL_law 188 = .ok (.aload_n 0, 1) := by decide +kernel
theorem dL_law_189 : decode cL_law 189 = .ok (.iload_n 3, 1) := by decide +kernel
theorem dL_law_190 : decode cL_law 190 = .ok (.iconst 2, 1) := by decide +kernel
theorem dL_law_191 : decode cL_law 191 = .ok (.iadd, 1) := by decide +kernel
theorem dL_law_192 : decode cL_law 192 = .ok (.iaload, 1) := by decide +kernel
theorem dL_law_193 : decode cL_law 193 = .ok (.invokevirtual 31, 3) := by decide +kernel
theorem dL_law_196 : decode cL_law 196 = .ok (.aload_n 2, 1) := by decide +kernel
theorem dL_law_197 : decode cL_law 197 = .ok (.aload_n 0, 1) := by decide +kernel
theorem dL_law_198 : decode cL_law 198 = .ok (.iload_n 3, 1) := by decide +kernel
theorem dL_law_199 : decode cL_law 199 = .ok (.iconst 1, 1) := by decide +kernel
theorem dL_law_200 : decode cL_law 200 = .ok (.iadd, 1) := by decide +kernel
theorem dL_law_201 : decode cL_law 201 = .ok (.iaload, 1) := by decide +kernel
theorem dL_law_202 : decode cL_law 202 = .ok (.aload_n 0, 1) := by decide +kernel
theorem dL_law_203 : decode cL_law 203 = .ok (.iload_n 3, 1) := by decide +kernel
theorem dL_law_204 : decode cL_law 204 = .ok (.iconst 2, 1) := by decide +kernel
theorem dL_law_205 : decode cL_law 205 = .ok (.iadd, 1) := by decide +kernel
theorem dL_law_206 : decode cL_law 206 = .ok (.iaload, 1) := by decide +kernel
theorem dL_law_207 : decode cL_law 207 = .ok (.invokevirtual 35, 3) := by decide +kernel
theorem dL_law_210 : decode cL_law 210 = .ok (.if_icmp .eq 325, 3) := by decide +kernel
theorem dL_law_213 : decode cL_law 213 = .ok (.iconst 0, 1) := by decide +kernel
theorem dL_law_214 : decode cL_law 214 = .ok (.ireturn, 1) := by decide +kernel
theorem dL_law_215 : decode cL_law 215 = .ok (.aload_n 1, 1) := by decide +kernel
theorem dL_law_216 : decode cL_law 216 = .ok (.aload_n 0, 1) := by decide +kernel
theorem dL_law_217 : decode cL_law 217 = .ok (.iload_n 3, 1) := by decide +kernel
theorem dL_law_218 : decode cL_law 218 = .ok (.iconst 1, 1) := by decide +kernel
theorem dL_law_219 : decode cL_law 219 = .ok (.iadd, 1) := by decide +kernel
theorem dL_law_220 : decode cL_law 220 = .ok (.iaload, 1) := by decide +kernel
theorem dL_law_221 : decode cL_law 221 = .ok (.aload_n 0, 1) := by decide +kernel
theorem dL_law_222 : decode cL_law 222 = .ok (.iload_n 3, 1) := by decide +kernel
theorem dL_law_223 : decode cL_law 223 = .ok (.iconst 2, 1) := by decide +kernel
theorem dL_law_224 : decode cL_law 224 = .ok (.iadd, 1) := by decide +kernel
theorem dL_law_225 : decode cL_law 225 = .ok (.iaload, 1) := by decide +kernel
theorem dL_law_226 : decode cL_law 226 = .ok (.invokevirtual 36, 3) := by decide +kernel
theorem dL_law_229 : decode cL_law 229 = .ok (.aload_n 2, 1) := by decide +kernel
theorem dL_law_230 : decode cL_law 230 = .ok (.aload_n 0, 1) := by decide +kernel
theorem dL_law_231 : decode cL_law 231 = .ok (.iload_n 3, 1) := by decide +kernel
theorem dL_law_232 : decode cL_law 232 = .ok (.iconst 1, 1) := by decide +kernel
theorem dL_law_233 : decode cL_law 233 = .ok (.iadd, 1) := by decide +kernel
theorem dL_law_234 : decode cL_law 234 = .ok (.iaload, 1) := by decide +kernel
theorem dL_law_235 : decode cL_law 235 = .ok (.aload_n 0, 1) := by decide +kernel
theorem dL_law_236 : decode cL_law 236 = .ok (.iload_n 3, 1) := by decide +kernel
theorem dL_law_237 : decode cL_law 237 = .ok (.iconst 2, 1) := by decide +kernel
theorem dL_law_238 : decode cL_law 238 = .ok (.iadd, 1) := by decide +kernel
theorem dL_law_239 : decode cL_law 239 = .ok (.iaload, 1) := by decide +kernel
theorem dL_law_240 : decode cL_law 240 = .ok (.invokevirtual 39, 3) := by decide +kernel
theorem dL_law_243 : decode cL_law 243 = .ok (.if_icmp .eq 292, 3) := by decide +kernel
theorem dL_law_246 : decode cL_law 246 = .ok (.iconst 0, 1) := by decide +kernel
theorem dL_law_247 : decode cL_law 247 = .ok (.ireturn, 1) := by decide +kernel
theorem dL_law_248 : decode cL_law 248 = .ok (.aload_n 1, 1) := by decide +kernel
theorem dL_law_249 : decode cL_law 249 = .ok (.aload_n 0, 1) := by decide +kernel
theorem dL_law_250 : decode cL_law 250 = .ok (.iload_n 3, 1) := by decide +kernel
theorem dL_law_251 : decode cL_law 251 = .ok (.iconst 1, 1) := by decide +kernel
theorem dL_law_252 : decode cL_law 252 = .ok (.iadd, 1) := by decide +kernel
theorem dL_law_253 : decode cL_law 253 = .ok (.iaload, 1) := by decide +kernel
theorem dL_law_254 : decode cL_law 254 = .ok (.invokevirtual 40, 3) := by decide +kernel
theorem dL_law_257 : decode cL_law 257 = .ok (.aload_n 2, 1) := by decide +kernel
theorem dL_law_258 : decode cL_law 258 = .ok (.aload_n 0, 1) := by decide +kernel
theorem dL_law_259 : decode cL_law 259 = .ok (.iload_n 3, 1) := by decide +kernel
theorem dL_law_260 : decode cL_law 260 = .ok (.iconst 1, 1) := by decide +kernel
theorem dL_law_261 : decode cL_law 261 = .ok (.iadd, 1) := by decide +kernel
theorem dL_law_262 : decode cL_law 262 = .ok (.iaload, 1) := by decide +kernel
theorem dL_law_263 : decode cL_law 263 = .ok (.invokevirtual 43, 3) := by decide +kernel
theorem dL_law_266 : decode cL_law 266 = .ok (.if_icmp .eq 269, 3) := by decide +kernel
theorem dL_law_269 : decode cL_law 269 = .ok (.iconst 0, 1) := by decide +kernel
theorem dL_law_270 : decode cL_law 270 = .ok (.ireturn, 1) := by decide +kernel
theorem dL_law_271 : decode cL_law 271 = .ok (.aload_n 1, 1) := by decide +kernel
theorem dL_law_272 : decode cL_law 272 = .ok (.aload_n 0, 1) := by decide +kernel
theorem dL_law_273 : decode cL_law 273 = .ok (.iload_n 3, 1) := by decide +kernel
theorem dL_law_274 : decode cL_law 274 = .ok (.iconst 1, 1) := by decide +kernel
theorem dL_law_275 : decode cL_law 275 = .ok (.iadd, 1) := by decide +kernel
theorem dL_law_276 : decode cL_law 276 = .ok (.iaload, 1) := by decide +kernel
theorem dL_law_277 : decode cL_law 277 = .ok (.aload_n 0, 1) := by decide +kernel
theorem dL_law_278 : decode cL_law 278 = .ok (.iload_n 3, 1) := by decide +kernel
theorem dL_law_279 : decode cL_law 279 = .ok (.iconst 2, 1) := by decide +kernel
theorem dL_law_280 : decode cL_law 280 = .ok (.iadd, 1) := by decide +kernel
theorem dL_law_281 : decode cL_law 281 = .ok (.iaload, 1) := by decide +kernel
theorem dL_law_282 : decode cL_law 282 = .ok (.invokevirtual 44, 3) := by decide +kernel
theorem dL_law_285 : decode cL_law 285 = .ok (.aload_n 2, 1) := by decide +kernel
theorem dL_law_286 : decode cL_law 286 = .ok (.aload_n 0, 1) := by decide +kernel
theorem dL_law_287 : decode cL_law 287 = .ok (.iload_n 3, 1) := by decide +kernel
theorem dL_law_288 : decode cL_law 288 = .ok (.iconst 1, 1) := by decide +kernel
theorem dL_law_289 : decode cL_law 289 = .ok (.iadd, 1) := by decide +kernel
theorem dL_law_290 : decode cL_law 290 = .ok (.iaload, 1) := by decide +kernel
theorem dL_law_291 : decode cL_law 291 = .ok (.aload_n 0, 1) := by decide +kernel
theorem dL_law_292 : decode cL_law 292 = .ok (.iload_n 3, 1) := by decide +kernel
theorem dL_law_293 : decode cL_law 293 = .ok (.iconst 2, 1) := by decide +kernel
theorem dL_law_294 : decode cL_law 294 = .ok (.iadd, 1) := by decide +kernel
theorem dL_law_295 : decode cL_law 295 = .ok (.iaload, 1) := by decide +kernel
theorem dL_law_296 : decode cL_law 296 = .ok (.invokevirtual 47, 3) := by decide +kernel
theorem dL_law_299 : decode cL_law 299 = .ok (.if_icmp .eq 236, 3) := by decide +kernel
theorem dL_law_302 : decode cL_law 302 = .ok (.iconst 0, 1) := by decide +kernel
theorem dL_law_303 : decode cL_law 303 = .ok (.ireturn, 1) := by decide +kernel
theorem dL_law_304 : decode cL_law 304 = .ok (.aload_n 1, 1) := by decide +kernel
theorem dL_law_305 : decode cL_law 305 = .ok (.aload_n 0, 1) := by decide +kernel
theorem dL_law_306 : decode cL_law 306 = .ok (.iload_n 3, 1) := by decide +kernel
theorem dL_law_307 : decode cL_law 307 = .ok (.iconst 1, 1) := by decide +kernel
theorem dL_law_308 : decode cL_law 308 = .ok (.iadd, 1) := by decide +kernel
theorem dL_law_309 : decode cL_law 309 = .ok (.iaload, 1) := by decide +kernel
theorem dL_law_310 : decode cL_law 310 = .ok (.aload_n 0, 1) := by decide +kernel
theorem dL_law_311 : decode cL_law 311 = .ok (.iload_n 3, 1) := by decide +kernel
theorem dL_law_312 : decode cL_law 312 = .ok (.iconst 2, 1) := by decide +kernel
theorem dL_law_313 : decode cL_law 313 = .ok (.iadd, 1) := by decide +kernel
theorem dL_law_314 : decode cL_law 314 = .ok (.iaload, 1) := by decide +kernel
theorem dL_law_315 : decode cL_law 315 = .ok (.invokevirtual 48, 3) := by decide +kernel
theorem dL_law_318 : decode cL_law 318 = .ok (.aload_n 2, 1) := by decide +kernel
theorem dL_law_319 : decode cL_law 319 = .ok (.aload_n 0, 1) := by decide +kernel
theorem dL_law_320 : decode cL_law 320 = .ok (.iload_n 3, 1) := by decide +kernel
theorem dL_law_321 : decode cL_law 321 = .ok (.iconst 1, 1) := by decide +kernel
theorem dL_law_322 : decode cL_law 322 = .ok (.iadd, 1) := by decide +kernel
theorem dL_law_323 : decode cL_law 323 = .ok (.iaload, 1) := by decide +kernel
theorem dL_law_324 : decode cL_law 324 = .ok (.aload_n 0, 1) := by decide +kernel
theorem dL_law_325 : decode cL_law 325 = .ok (.iload_n 3, 1) := by decide +kernel
theorem dL_law_326 : decode cL_law 326 = .ok (.iconst 2, 1) := by decide +kernel
theorem dL_law_327 : decode cL_law 327 = .ok (.iadd, 1) := by decide +kernel
theorem dL_law_328 : decode cL_law 328 = .ok (.iaload, 1) := by decide +kernel
theorem dL_law_329 : decode cL_law 329 = .ok (.invokevirtual 51, 3) := by decide +kernel
theorem dL_law_332 : decode cL_law 332 = .ok (.if_icmp .eq 203, 3) := by decide +kernel
theorem dL_law_335 : decode cL_law 335 = .ok (.iconst 0, 1) := by decide +kernel
theorem dL_law_336 : decode cL_law 336 = .ok (.ireturn, 1) := by decide +kernel
theorem dL_law_337 : decode cL_law 337 = .ok (.aload_n 1, 1) := by decide +kernel
theorem dL_law_338 : decode cL_law 338 = .ok (.aload_n 0, 1) := by decide +kernel
theorem dL_law_339 : decode cL_law 339 = .ok (.iload_n 3, 1) := by decide +kernel
theorem dL_law_340 : decode cL_law 340 = .ok (.iconst 1, 1) := by decide +kernel
theorem dL_law_341 : decode cL_law 341 = .ok (.iadd, 1) := by decide +kernel
theorem dL_law_342 : decode cL_law 342 = .ok (.iaload, 1) := by decide +kernel
theorem dL_law_343 : decode cL_law 343 = .ok (.aload_n 0, 1) := by decide +kernel
theorem dL_law_344 : decode cL_law 344 = .ok (.iload_n 3, 1) := by decide +kernel
theorem dL_law_345 : decode cL_law 345 = .ok (.iconst 2, 1) := by decide +kernel
theorem dL_law_346 : decode cL_law 346 = .ok (.iadd, 1) := by decide +kernel
theorem dL_law_347 : decode cL_law 347 = .ok (.iaload, 1) := by decide +kernel
theorem dL_law_348 : decode cL_law 348 = .ok (.invokevirtual 52, 3) := by decide +kernel
theorem dL_law_351 : decode cL_law 351 = .ok (.aload_n 2, 1) := by decide +kernel
theorem dL_law_352 : decode cL_law 352 = .ok (.aload_n 0, 1) := by decide +kernel
theorem dL_law_353 : decode cL_law 353 = .ok (.iload_n 3, 1) := by decide +kernel
theorem dL_law_354 : decode cL_law 354 = .ok (.iconst 1, 1) := by decide +kernel
theorem dL_law_355 : decode cL_law 355 = .ok (.iadd, 1) := by decide +kernel
theorem dL_law_356 : decode cL_law 356 = .ok (.iaload, 1) := by decide +kernel
theorem dL_law_357 : decode cL_law 357 = .ok (.aload_n 0, 1) := by decide +kernel
theorem dL_law_358 : decode cL_law 358 = .ok (.iload_n 3, 1) := by decide +kernel
theorem dL_law_359 : decode cL_law 359 = .ok (.iconst 2, 1) := by decide +kernel
theorem dL_law_360 : decode cL_law 360 = .ok (.iadd, 1) := by decide +kernel
theorem dL_law_361 : decode cL_law 361 = .ok (.iaload, 1) := by decide +kernel
theorem dL_law_362 : decode cL_law 362 = .ok (.invokevirtual 55, 3) := by decide +kernel
theorem dL_law_365 : decode cL_law 365 = .ok (.if_icmp .eq 170, 3) := by decide +kernel
theorem dL_law_368 : decode cL_law 368 = .ok (.iconst 0, 1) := by decide +kernel
theorem dL_law_369 : decode cL_law 369 = .ok (.ireturn, 1) := by decide +kernel
theorem dL_law_370 : decode cL_law 370 = .ok (.aload_n 1, 1) := by decide +kernel
theorem dL_law_371 : decode cL_law 371 = .ok (.invokevirtual 56, 3) := by decide +kernel
theorem dL_law_374 : decode cL_law 374 = .ok (.aload_n 2, 1) := by decide +kernel
theorem dL_law_375 : decode cL_law 375 = .ok (.invokevirtual 59, 3) := by decide +kernel
theorem dL_law_378 : decode cL_law 378 = .ok (.if_icmp .eq 157, 3) := by decide +kernel
theorem dL_law_381 : decode cL_law 381 = .ok (.iconst 0, 1) := by decide +kernel
theorem dL_law_382 : decode cL_law 382 = .ok (.ireturn, 1) := by decide +kernel
theorem dL_law_383 : decode cL_law 383 = .ok (.aload_n 1, 1) := by decide +kernel
theorem dL_law_384 : decode cL_law 384 = .ok (.aload_n 0, 1) := by decide +kernel
theorem dL_law_385 : decode cL_law 385 = .ok (.iload_n 3, 1) := by decide +kernel
theorem dL_law_386 : decode cL_law 386 = .ok (.iconst 1, 1) := by decide +kernel
theorem dL_law_387 : decode cL_law 387 = .ok (.iadd, 1) := by decide +kernel
theorem dL_law_388 : decode cL_law 388 = .ok (.iaload, 1) := by decide +kernel
theorem dL_law_389 : decode cL_law 389 = .ok (.aload_n 0, 1) := by decide +kernel
theorem dL_law_390 : decode cL_law 390 = .ok (.iload_n 3, 1) := by decide +kernel
theorem dL_law_391 : decode cL_law 391 = .ok (.iconst 2, 1) := by decide +kernel
theorem dL_law_392 : decode cL_law 392 = .ok (.iadd, 1) := by decide +kernel
theorem dL_law_393 : decode cL_law 393 = .ok (.iaload, 1) := by decide +kernel
theorem dL_law_394 : decode cL_law 394 = .ok (.invokevirtual 60, 3) := by decide +kernel
theorem dL_law_397 : decode cL_law 397 = .ok (.aload_n 2, 1) := by decide +kernel
theorem dL_law_398 : decode cL_law 398 = .ok (.aload_n 0, 1) := by decide +kernel
theorem dL_law_399 : decode cL_law 399 = .ok (.iload_n 3, 1) := by decide +kernel
theorem dL_law_400 : decode cL_law 400 = .ok (.iconst 1, 1) := by decide +kernel
theorem dL_law_401 : decode cL_law 401 = .ok (.iadd, 1) := by decide +kernel
theorem dL_law_402 : decode cL_law 402 = .ok (.iaload, 1) := by decide +kernel
theorem dL_law_403 : decode cL_law 403 = .ok (.aload_n 0, 1) := by decide +kernel
theorem dL_law_404 : decode cL_law 404 = .ok (.iload_n 3, 1) := by decide +kernel
theorem dL_law_405 : decode cL_law 405 = .ok (.iconst 2, 1) := by decide +kernel
theorem dL_law_406 : decode cL_law 406 = .ok (.iadd, 1) := by decide +kernel
theorem dL_law_407 : decode cL_law 407 = .ok (.iaload, 1) := by decide +kernel
theorem dL_law_408 : decode cL_law 408 = .ok (.invokevirtual 63, 3) := by decide +kernel
theorem dL_law_411 : decode cL_law 411 = .ok (.if_icmp .eq 124, 3) := by decide +kernel
theorem dL_law_414 : decode cL_law 414 = .ok (.iconst 0, 1) := by decide +kernel
theorem dL_law_415 : decode cL_law 415 = .ok (.ireturn, 1) := by decide +kernel
theorem dL_law_416 : decode cL_law 416 = .ok (.aload_n 1, 1) := by decide +kernel
theorem dL_law_417 : decode cL_law 417 = .ok (.invokevirtual 64, 3) := by decide +kernel
theorem dL_law_420 : decode cL_law 420 = .ok (.aload_n 2, 1) := by decide +kernel
theorem dL_law_421 : decode cL_law 421 = .ok (.invokevirtual 67, 3) := by decide +kernel
theorem dL_law_424 : decode cL_law 424 = .ok (.if_icmp .eq 111, 3) := by decide +kernel
theorem dL_law_427 : decode cL_law 427 = .ok (.iconst 0, 1) := by decide +kernel
theorem dL_law_428 : decode cL_law 428 = .ok (.ireturn, 1) := by decide +kernel
theorem dL_law_429 : decode cL_law 429 = .ok (.aload_n 1, 1) := by decide +kernel
theorem dL_law_430 : decode cL_law 430 = .ok (.aload_n 0, 1) := by decide +kernel
theorem dL_law_431 : decode cL_law 431 = .ok (.iload_n 3, 1) := by decide +kernel
theorem dL_law_432 : decode cL_law 432 = .ok (.iconst 1, 1) := by decide +kernel
theorem dL_law_433 : decode cL_law 433 = .ok (.iadd, 1) := by decide +kernel
theorem dL_law_434 : decode cL_law 434 = .ok (.iaload, 1) := by decide +kernel
theorem dL_law_435 : decode cL_law 435 = .ok (.aload_n 0, 1) := by decide +kernel
theorem dL_law_436 : decode cL_law 436 = .ok (.iload_n 3, 1) := by decide +kernel
theorem dL_law_437 : decode cL_law 437 = .ok (.iconst 2, 1) := by decide +kernel
theorem dL_law_438 : decode cL_law 438 = .ok (.iadd, 1) := by decide +kernel
theorem dL_law_439 : decode cL_law 439 = .ok (.iaload, 1) := by decide +kernel
theorem dL_law_440 : decode cL_law 440 = .ok (.aload_n 0, 1) := by decide +kernel
theorem dL_law_441 : decode cL_law 441 = .ok (.iload_n 3, 1) := by decide +kernel
theorem dL_law_442 : decode cL_law 442 = .ok (.iconst 3, 1) := by decide +kernel
theorem dL_law_443 : decode cL_law 443 = .ok (.iadd, 1) := by decide +kernel
theorem dL_law_444 : decode cL_law 444 = .ok (.iaload, 1) := by decide +kernel
theorem dL_law_445 : decode cL_law 445 = .ok (.invokevirtual 68, 3) := by decide +kernel
theorem dL_law_448 : decode cL_law 448 = .ok (.aload_n 2, 1) := by decide +kernel
theorem dL_law_449 : decode cL_law 449 = .ok (.aload_n 0, 1) := by decide +kernel
theorem dL_law_450 : decode cL_law 450 = .ok (.iload_n 3, 1) := by decide +kernel
theorem dL_law_451 : decode cL_law 451 = .ok (.iconst 1, 1) := by decide +kernel
theorem dL_law_452 : decode cL_law 452 = .ok (.iadd, 1) := by decide +kernel
theorem dL_law_453 : decode cL_law 453 = .ok (.iaload, 1) := by decide +kernel
theorem dL_law_454 : decode cL_law 454 = .ok (.aload_n 0, 1) := by decide +kernel
theorem dL_law_455 : decode cL_law 455 = .ok (.iload_n 3, 1) := by decide +kernel
theorem dL_law_456 : decode cL_law 456 = .ok (.iconst 2, 1) := by decide +kernel
theorem dL_law_457 : decode cL_law 457 = .ok (.iadd, 1) := by decide +kernel
theorem dL_law_458 : decode cL_law 458 = .ok (.iaload, 1) := by decide +kernel
theorem dL_law_459 : decode cL_law 459 = .ok (.aload_n 0, 1) := by decide +kernel
theorem dL_law_460 : decode cL_law 460 = .ok (.iload_n 3, 1) := by decide +kernel
theorem dL_law_461 : decode cL_law 461 = .ok (.iconst 3, 1) := by decide +kernel
theorem dL_law_462 : decode cL_law 462 = .ok (.iadd, 1) := by decide +kernel
theorem dL_law_463 : decode cL_law 463 = .ok (.iaload, 1) := by decide +kernel
theorem dL_law_464 : decode cL_law 464 = .ok (.invokevirtual 72, 3) := by decide +kernel
theorem dL_law_467 : decode cL_law 467 = .ok (.if_icmp .eq 68, 3) := by decide +kernel
theorem dL_law_470 : decode cL_law 470 = .ok (.iconst 0, 1) := by decide +kernel
theorem dL_law_471 : decode cL_law 471 = .ok (.ireturn, 1) := by decide +kernel
theorem dL_law_472 : decode cL_law 472 = .ok (.aload_n 1, 1) := by decide +kernel
theorem dL_law_473 : decode cL_law 473 = .ok (.invokevirtual 73, 3) := by decide +kernel
theorem dL_law_476 : decode cL_law 476 = .ok (.aload_n 2, 1) := by decide +kernel
theorem dL_law_477 : decode cL_law 477 = .ok (.invokevirtual 76, 3) := by decide +kernel
theorem dL_law_480 : decode cL_law 480 = .ok (.if_icmp .eq 55, 3) := by decide +kernel
theorem dL_law_483 : decode cL_law 483 = .ok (.iconst 0, 1) := by decide +kernel
theorem dL_law_484 : decode cL_law 484 = .ok (.ireturn, 1) := by decide +kernel
theorem dL_law_485 : decode cL_law 485 = .ok (.aload_n 1, 1) := by decide +kernel
theorem dL_law_486 : decode cL_law 486 = .ok (.invokevirtual 77, 3) := by decide +kernel
theorem dL_law_489 : decode cL_law 489 = .ok (.aload_n 2, 1) := by decide +kernel
theorem dL_law_490 : decode cL_law 490 = .ok (.invokevirtual 80, 3) := by decide +kernel
theorem dL_law_493 : decode cL_law 493 = .ok (.if_icmp .eq 42, 3) := by decide +kernel
theorem dL_law_496 : decode cL_law 496 = .ok (.iconst 0, 1) := by decide +kernel
theorem dL_law_497 : decode cL_law 497 = .ok (.ireturn, 1) := by decide +kernel
theorem dL_law_498 : decode cL_law 498 = .ok (.aload_n 1, 1) := by decide +kernel
theorem dL_law_499 : decode cL_law 499 = .ok (.aload_n 0, 1) := by decide +kernel
theorem dL_law_500 : decode cL_law 500 = .ok (.iload_n 3, 1) := by decide +kernel
theorem dL_law_501 : decode cL_law 501 = .ok (.iconst 1, 1) := by decide +kernel
theorem dL_law_502 : decode cL_law 502 = .ok (.iadd, 1) := by decide +kernel
theorem dL_law_503 : decode cL_law 503 = .ok (.iaload, 1) := by decide +kernel
theorem dL_law_504 : decode cL_law 504 = .ok (.invokevirtual 81, 3) := by decide +kernel
theorem dL_law_507 : decode cL_law 507 = .ok (.aload_n 2, 1) := by decide +kernel
theorem dL_law_508 : decode cL_law 508 = .ok (.aload_n 0, 1) := by decide +kernel
theorem dL_law_509 : decode cL_law 509 = .ok (.iload_n 3, 1) := by decide +kernel
theorem dL_law_510 : decode cL_law 510 = .ok (.iconst 1, 1) := by decide +kernel
theorem dL_law_511 : decode cL_law 511 = .ok (.iadd, 1) := by decide +kernel
theorem dL_law_512 : decode cL_law 512 = .ok (.iaload, 1) := by decide +kernel
theorem dL_law_513 : decode cL_law 513 = .ok (.invokevirtual 84, 3) := by decide +kernel
theorem dL_law_516 : decode cL_law 516 = .ok (.if_icmp .eq 19, 3) := by decide +kernel
theorem dL_law_519 : decode cL_law 519 = .ok (.iconst 0, 1) := by decide +kernel
theorem dL_law_520 : decode cL_law 520 = .ok (.ireturn, 1) := by decide +kernel
theorem dL_law_521 : decode cL_law 521 = .ok (.aload_n 1, 1) := by decide +kernel
theorem dL_law_522 : decode cL_law 522 = .ok (.invokevirtual 85, 3) := by decide +kernel
theorem dL_law_525 : decode cL_law 525 = .ok (.aload_n 2, 1) := by decide +kernel
theorem dL_law_526 : decode cL_law 526 = .ok (.invokevirtual 89, 3) := by decide +kernel
theorem dL_law_529 : decode cL_law 529 = .ok (.lcmp, 1) := by decide +kernel
theorem dL_law_530 : decode cL_law 530 = .ok (.ifCond .eq 5, 3) := by decide +kernel
theorem dL_law_533 : decode cL_law 533 = .ok (.iconst 0, 1) := by decide +kernel
theorem dL_law_534 : decode cL_law 534 = .ok (.ireturn, 1) := by decide +kernel
theorem dL_law_535 : decode cL_law 535 = .ok (.iinc 3 4, 3) := by decide +kernel
theorem dL_law_538 : decode cL_law 538 = .ok (.goto (-520), 3) := by decide +kernel
theorem dL_law_541 : decode cL_law 541 = .ok (.iconst 1, 1) := by decide +kernel
theorem dL_law_542 : decode cL_law 542 = .ok (.ireturn, 1) := by decide +kernel
abbrev vwCl : List vw_C := [(RX0, TX0, 4), (RX1, TX1, 10), (RX2, TX2, 2), (RX3, TX3, 12), (RX4, TX4, 8), (RX5, TX5, 35)]
end
section
/-! own helpers: links of nest mates, contracts over worlds, calls that put the world back in its order -/
def zNl : List Cond := [.fieldLinkNest "HeardSecond$Bench" 18 "HeardSecond$Page" "length" "I" "HeardSecond", .fieldLinkNest "HeardSecond" 53 "HeardSecond$Page" "length" "I" "HeardSecond", .fieldLinkNest "HeardSecond" 78 "HeardSecond$Bench" "seats" "I" "HeardSecond", .fieldLinkNest "HeardSecond$Trial" 94 "HeardSecond$Bench" "patience" "I" "HeardSecond", .fieldLinkNest "HeardSecond" 181 "HeardSecond$Bench" "patience" "I" "HeardSecond", .fieldLinkNest "HeardSecond$Outlook" 90 "HeardSecond$Trial" "last" "I" "HeardSecond", .fieldLinkNest "HeardSecond" 99 "HeardSecond$Trial" "last" "I" "HeardSecond", .fieldLinkNest "HeardSecond$Outlook" 87 "HeardSecond$Trial" "believed" "I" "HeardSecond", .fieldLinkNest "HeardSecond" 184 "HeardSecond$Trial" "believed" "I" "HeardSecond", .fieldLinkNest "HeardSecond$Outlook" 44 "HeardSecond$Trial" "out" "I" "HeardSecond", .fieldLinkNest "HeardSecond" 92 "HeardSecond$Trial" "out" "I" "HeardSecond", .fieldLinkNest "HeardSecond" 187 "HeardSecond$Trial" "silence" "I" "HeardSecond", .fieldLinkNest "HeardSecond" 172 "HeardSecond$Trial" "ended" "I" "HeardSecond", .fieldLinkNest "HeardSecond" 175 "HeardSecond$Trial" "wonBy0" "I" "HeardSecond", .fieldLinkNest "HeardSecond" 190 "HeardSecond$Trial" "wonBy1" "I" "HeardSecond", .fieldLinkNest "HeardSecond" 178 "HeardSecond$Trial" "breaths" "I" "HeardSecond", .fieldLinkNest "HeardSecond" 106 "HeardSecond$Trial" "words" "[I" "HeardSecond", .fieldLinkNest "HeardSecond" 145 "HeardSecond$Trial" "told" "I" "HeardSecond",
  .methodLinkNest "HeardSecond" 9 ⟨"HeardSecond$Page", "<init>", "()V"⟩ "HeardSecond", .methodLinkNest "HeardSecond" 18 ⟨"HeardSecond$Bench", "<init>", "()V"⟩ "HeardSecond", .methodLinkNest "HeardSecond" 25 ⟨"HeardSecond$Trial", "<init>", "()V"⟩ "HeardSecond", .methodLinkNest "HeardSecond$Page" 19 ⟨"HeardSecond", "put", "([III)V"⟩ "HeardSecond", .methodLinkNest "HeardSecond$Page" 23 ⟨"HeardSecond", "at", "([II)I"⟩ "HeardSecond", .methodLinkNest "HeardSecond$Bench" 40 ⟨"HeardSecond", "put", "([III)V"⟩ "HeardSecond", .methodLinkNest "HeardSecond$Trial" 46 ⟨"HeardSecond", "fill", "([II)V"⟩ "HeardSecond", .methodLinkNest "HeardSecond$Bench" 54 ⟨"HeardSecond", "isIn", "(II)Z"⟩ "HeardSecond", .methodLinkNest "HeardSecond$Outlook" 64 ⟨"HeardSecond", "put", "([III)V"⟩ "HeardSecond", .methodLinkNest "HeardSecond$Outlook" 74 ⟨"HeardSecond", "fill", "([II)V"⟩ "HeardSecond", .methodLinkNest "HeardSecond$Outlook" 93 ⟨"HeardSecond", "at", "([II)I"⟩ "HeardSecond", .methodLinkNest "HeardSecond$Trial" 60 ⟨"HeardSecond", "isIn", "(II)Z"⟩ "HeardSecond", .methodLinkNest "HeardSecond$Trial" 78 ⟨"HeardSecond", "at", "([II)I"⟩ "HeardSecond", .methodLinkNest "HeardSecond$Trial" 82 ⟨"HeardSecond", "put", "([III)V"⟩ "HeardSecond", .methodLinkNest "HeardSecond$Outlook" 126 ⟨"HeardSecond", "copy", "([I[I)V"⟩ "HeardSecond", .methodLinkNest "HeardSecond$Trial" 56 ⟨"HeardSecond", "copy", "([I[I)V"⟩ "HeardSecond"]
def zN (U : State) : Prop := ∀ w ∈ zNl, va_Nw w U
theorem zNl_on : ∀ w ∈ zNl, w.onTables = true := by
  intro w hw
  have h : zNl.all Cond.onTables = true := by rfl
  exact List.all_eq_true.mp h w hw
theorem zN.vm {u U : State} (e : u.vm = U.vm) (h : zN u) : zN U := fun w hw => va_Nw.same (zNl_on w hw) e (h w hw)
theorem zN.warm {s U : State} (hW : s.WarmedH U.vm) (h : zN s) : zN U := by
  intro w hw
  have h1 := h w hw
  simp only [zNl, List.mem_cons, List.not_mem_nil, or_false] at hw
  rcases hw with rfl | rfl | rfl | rfl | rfl | rfl | rfl | rfl | rfl | rfl | rfl | rfl | rfl | rfl | rfl | rfl | rfl | rfl | rfl | rfl | rfl | rfl | rfl | rfl | rfl | rfl | rfl | rfl | rfl | rfl | rfl | rfl | rfl | rfl <;> first | exact va_Nw.warmF hW h1 | exact va_Nw.warmM hW h1
theorem zN.get {U : State} (h : zN U) (i : Nat) {w : Cond} (hi : zNl[i]? = some w) : va_Nw w U := h w (List.mem_of_getElem? hi)
theorem zN.getb {U : State} (h : zN U) (i : Nat) {w : Cond} (hi : zNl[i]? = some w) {A : Array Value} : w.before A U = true := va_Nw.use (zNl_on w (List.mem_of_getElem? hi)) (h w (List.mem_of_getElem? hi))
-- contracts
def zPc (D : va_G) (cA : ClassId) (ws : va_W) (sz : Nat) (av : List Value) : Array Value → State → Prop := va_Pc av (fun U => U.heap.size = sz ∧ va_P D vwCl ws U.heap ∧ va_K D vwCl [(cA, .int)] U ∧ va_D (fun _ => True) ws ∧ zN U)
def zB {S : Type} (D : va_G) (cA : ClassId) (A : Nat → Prop) (w2 : S → va_W) (u : S) (t : State) : Prop := va_P D vwCl (w2 u) t.heap ∧ va_K D vwCl [(cA, .int)] t ∧ va_D A (w2 u)
def zMi (l : Launch) (y : MethodName) (wsT : List Cond) (rm : Room) (D : va_G) (cA : ClassId) (ws : va_W) (av : List Value) {S : Type} (post : Int32 → S → Prop) (w2 : S → va_W) : Prop := ∀ sz : Nat, Met l y wsT rm (zPc D cA ws sz av) (va_Qi post (zB D cA (va_A ws sz) w2) (va_A ws sz)) 0 0 (va_A ws sz)
def zMl (l : Launch) (y : MethodName) (wsT : List Cond) (rm : Room) (D : va_G) (cA : ClassId) (ws : va_W) (av : List Value) {S : Type} (post : Int64 → S → Prop) (w2 : S → va_W) : Prop := ∀ sz : Nat, Met l y wsT rm (zPc D cA ws sz av) (va_Ql post (zB D cA (va_A ws sz) w2) (va_A ws sz)) 0 0 (va_A ws sz)
def zMv (l : Launch) (y : MethodName) (wsT : List Cond) (rm : Room) (D : va_G) (cA : ClassId) (ws : va_W) (av : List Value) {S : Type} (post : S → Prop) (w2 : S → va_W) : Prop := ∀ sz : Nat, Met l y wsT rm (zPc D cA ws sz av) (va_Qv post (zB D cA (va_A ws sz) w2) (va_A ws sz)) 0 0 (va_A ws sz)
theorem z_blind {D : va_G} {cA : ClassId} {ws : va_W} {sz : Nat} {av : List Value} : FrameBlind (zPc D cA ws sz av) := fun a U g mk q => by
  obtain ⟨q0, q1, qP, qK, qD, qN⟩ := q
  exact ⟨q0, q1, qP, va_K.moved (u := U) (U := U.calling g mk a) (Vm.Alike.refl U.vm) qK, qD, zN.vm (u := U) rfl qN⟩
theorem z_fm {α β : Type} (f : α → Option β) : ∀ (l : List α) (w : List β), l.map f = w.map some → l.filterMap f = w
  | [], [], _ => rfl
  | [], _ :: _, h => by simp at h
  | _ :: _, [], h => by simp at h
  | a :: l, b :: w, h => by
    simp only [List.map_cons, List.cons.injEq] at h
    simp only [List.filterMap_cons, h.1, z_fm f l w h.2]
theorem z_at {ws wc : va_W} {isC : List Nat} (hC : isC.map (fun i => ws[i]?) = wc.map some) {k : Nat} {q : Nat × va_E} (hq : wc[k]? = some q) : ∃ i, isC[k]? = some i ∧ ws[i]? = some q := by
  have h1 : (isC.map (fun i => ws[i]?))[k]? = some (some q) := by rw [hC, List.getElem?_map, hq]; rfl
  rw [List.getElem?_map] at h1
  cases hi : isC[k]? with
  | none => rw [hi] at h1; cases h1
  | some i => rw [hi] at h1; exact ⟨i, rfl, Option.some.inj h1⟩
/-- an array's row, said otherwise below its length -/
theorem z_cell {cA : ClassId} {n : Nat} {f g : Nat → Int32} (h : ∀ j, j < n → f j = g j) : vp_cell cA (n, .inl f) = vp_cell cA (n, .inl g) := by
  show arrV cA n (fun j => .int (f j)) = arrV cA n (fun j => .int (g j))
  unfold arrV
  congr 1
  refine Array.ext (by simp) (fun i h1 h2 => ?_)
  simp only [Array.getElem_ofFn]
  rw [h i (by simpa using h1)]
theorem z_arrP {D : va_G} {cl : List vw_C} {ws ws' : va_W} {H : Heap} (hP : va_P D cl ws H) (k0 : Nat) {a : Nat} {cA : ClassId} {n : Nat} {f g : Nat → Int32} (hk : ws[k0]? = some (a, .inl (cA, n, .inl f))) (h : ∀ j, j < n → f j = g j) (hs : ws.set k0 (a, .inl (cA, n, .inl g)) = ws') : va_P D cl ws' H := by
  subst hs
  intro k q hq
  rw [List.getElem?_set] at hq
  by_cases e : k0 = k
  · subst e
    have hlt : k0 < ws.length := (List.getElem?_eq_some_iff.mp hk).1
    rw [if_pos rfl, if_pos hlt] at hq
    cases hq
    have h1 : H[a]? = some (vp_cell cA (n, .inl f)) := hP k0 _ hk
    show H[a]? = some (vp_cell cA (n, .inl g))
    rw [h1, z_cell h]
  · rw [if_neg e] at hq
    exact hP k q hq
theorem z_arrD {A : Nat → Prop} {ws ws' : va_W} (hD : va_D A ws) (k0 : Nat) {a : Nat} {e0 e : va_E} (hk : ws[k0]? = some (a, e0)) (hs : ws.set k0 (a, e) = ws') : va_D A ws' := by
  subst hs
  exact hD.set hk
-- runs of calls
section ZRun
variable {p : Program} {l : Launch} {e : Env} {R : Room} {s : State} {m : MethodId} {args : Array Value} {below : List Frame} {meth : Method} {c : Code} {H : Heap} {locs : List Loc} {cells slots : Nat} {Q : State → Prop}
theorem z_preU {D : va_G} {cA : ClassId} {ws wc : va_W} {A : Nat → Prop} (hK : va_K D vwCl [(cA, .int)] s) (hP : va_P D vwCl ws H) (hD : va_D A ws) (hN : zN s) (isC : List Nat) (hC : isC.map (fun i => ws[i]?) = wc.map some) (hn : va_nd isC = true) (av : List Value) : ∀ U : State, U.heap = H → s.WarmedH U.vm → zPc D cA wc H.size av av.toArray U :=
  fun U hU hW => ⟨rfl, by rw [hU], by rw [hU]; exact hP.sub isC (z_fm _ _ _ hC), va_K.moved hW.alike hK, (hD.sub isC hn hC).weaken (fun _ _ _ _ => trivial), hN.warm hW⟩
theorem z_runV {cc : ByteArray} {nL : Nat} {Ts : List Cond} {own C : String} {index maxL n ci : Nat} {y : MethodName} {bytes : ByteArray} {ret : Option FieldType} {wsT : List Cond} {rm : Room} {D : va_G} {cA : ClassId} {ws wc : va_W} {A : Nat → Prop} {Qc : Array Value → State → Outcome → State → Prop} {b : Addr} {As rest st : List Value} {pc : Nat} {ls : Array Slot} {T : u_T} {N : Nat} {fs : List Value}
    (F : CallFix p m c cc nL s args Ts own) (hM : Met l y wsT rm (zPc D cA wc H.size (.ref b :: As)) Qc 0 0 (va_A wc H.size)) (cw : CallW R s args own C index y bytes maxL ret wsT rm 0 0 n) (hK : va_K D vwCl [(cA, .int)] s) (hP : va_P D vwCl ws H) (hD : va_D A ws) (hN : zN s) (isC : List Nat) (hC : isC.map (fun i => ws[i]?) = wc.map some) (hnC : va_nd isC = true)
    (hc : vwCl[ci]? = some (C, T, N)) (he : wc[0]? = some (b, .inr (ci, fs))) (hn : As.length = n) (hl : ls.size = nL) (hst : st = As.reverse ++ .ref b :: rest) (hW : (rest.map fun v => v.category).sum ≤ 8) (hdg : decode cc pc = .ok (.invokevirtual index, 3)) (hf : cells ≤ R.cells ∧ slots ≤ R.slots) :
    va_Run p l e R s m args below meth c H locs cells slots 0 0 (F0 m pc ls st) rest (Qc (Value.ref b :: As).toArray) (va_A wc H.size) :=
  va_runV F hM cw ⟨z_blind, va_recv hK (hP.sub isC (z_fm _ _ _ hC)) hc he, z_preU hK hP hD hN isC hC hnC _⟩ rfl hn hl hst (lv_room (m := m) (pc := pc) (ls := ls) (rest := st) hW) hdg hf
theorem z_runS {cc : ByteArray} {nL : Nat} {Ts : List Cond} {own : String} {index maxL n : Nat} {y : MethodName} {bytes : ByteArray} {ret : Option FieldType} {wsT : List Cond} {rm : Room} {D : va_G} {cA : ClassId} {ws wc : va_W} {A : Nat → Prop} {Qc : Array Value → State → Outcome → State → Prop} {As rest st : List Value} {pc : Nat} {ls : Array Slot}
    (F : CallFix p m c cc nL s args Ts own) (hM : Met l y wsT rm (zPc D cA wc H.size As) Qc 0 0 (va_A wc H.size)) (cw : CallB R s args own index y bytes maxL ret wsT rm 0 0 n ∧ (Cond.static y).before args s = true) (hK : va_K D vwCl [(cA, .int)] s) (hP : va_P D vwCl ws H) (hD : va_D A ws) (hN : zN s) (isC : List Nat) (hC : isC.map (fun i => ws[i]?) = wc.map some) (hnC : va_nd isC = true)
    (hn : As.length = n) (hl : ls.size = nL) (hst : st = As.reverse ++ rest) (hW : (rest.map fun v => v.category).sum ≤ 8) (hdg : decode cc pc = .ok (.invokestatic index, 3)) (hf : cells ≤ R.cells ∧ slots ≤ R.slots) :
    va_Run p l e R s m args below meth c H locs cells slots 0 0 (F0 m pc ls st) rest (Qc As.toArray) (va_A wc H.size) :=
  va_runS F hM cw ⟨z_blind, z_preU hK hP hD hN isC hC hnC _⟩ rfl hn hl hst (lv_room (m := m) (pc := pc) (ls := ls) (rest := st) hW) hdg hf
theorem z_runSN {cc : ByteArray} {nL : Nat} {Ts : List Cond} {own host : String} {index maxL n : Nat} {y : MethodName} {bytes : ByteArray} {ret : Option FieldType} {wsT : List Cond} {rm : Room} {D : va_G} {cA : ClassId} {ws wc : va_W} {A : Nat → Prop} {Qc : Array Value → State → Outcome → State → Prop} {As rest st : List Value} {pc : Nat} {ls : Array Slot}
    (F : CallFix p m c cc nL s args Ts own) (hM : Met l y wsT rm (zPc D cA wc H.size As) Qc 0 0 (va_A wc H.size)) (cw : va_CN R s args own index y host bytes maxL ret wsT rm 0 0 n) (hst2 : (Cond.static y).before args s = true) (hK : va_K D vwCl [(cA, .int)] s) (hP : va_P D vwCl ws H) (hD : va_D A ws) (hN : zN s) (isC : List Nat) (hC : isC.map (fun i => ws[i]?) = wc.map some) (hnC : va_nd isC = true)
    (hn : As.length = n) (hl : ls.size = nL) (hst : st = As.reverse ++ rest) (hW : (rest.map fun v => v.category).sum ≤ 8) (hdg : decode cc pc = .ok (.invokestatic index, 3)) (hf : cells ≤ R.cells ∧ slots ≤ R.slots) :
    va_Run p l e R s m args below meth c H locs cells slots 0 0 (F0 m pc ls st) rest (Qc As.toArray) (va_A wc H.size) :=
  va_runSN F hM ⟨cw, hst2, trivial⟩ ⟨z_blind, z_preU hK hP hD hN isC hC hnC _⟩ rfl hn hl hst (lv_room (m := m) (pc := pc) (ls := ls) (rest := st) hW) hdg hf
/-- behind a call that leaves its cells as they were: the world stands in its order -/
theorem z_ro {D : va_G} {ws wc : va_W} {A : Nat → Prop} {H1 : Heap} (hP : va_P D vwCl ws H) (hD : va_D A ws) (isC : List Nat) (hC : isC.map (fun i => ws[i]?) = wc.map some) (hk1 : ∀ q : Nat, q < H.size → ¬ va_A wc H.size q → H1[q]? = H[q]?) (hP1 : va_P D vwCl wc H1) : va_P D vwCl ws H1 := by
  intro k q hk
  by_cases hq : va_A wc H.size q.1
  · rcases hq with ⟨k2, e2, h2⟩ | h2
    · obtain ⟨i, hi, hw⟩ := z_at hC h2
      have hik : i = k := hD.1 i k _ _ hw hk rfl
      subst hik
      rw [hk] at hw
      have h3 := hP1 k2 _ h2
      rw [← Option.some.inj hw] at h3
      exact h3
    · exact absurd (hP k q hk).lt (Nat.not_lt.mpr h2)
  · exact (hP k q hk).kept (hk1 q.1 (hP k q hk).lt hq)
theorem z_bri {S : Type} {post : Int32 → S → Prop} {D : va_G} {cA : ClassId} {ws wc : va_W} {A : Nat → Prop} {H0 : Heap} {a : Array Value} {pc : Nat} {ls : Array Slot} {st rest : List Value} (hr : va_Run p l e R s m args below meth c H locs cells slots 0 0 (F0 m pc ls st) rest (va_Qi post (zB D cA (va_A wc H.size) (fun _ : S => wc)) (va_A wc H.size) a) (va_A wc H.size))
    (hP : va_P D vwCl ws H) (hD : va_D A ws) (hS : va_S A H0 H locs) (hA : ∀ q, H0.size ≤ q → A q) (isC : List Nat) (hC : isC.map (fun i => ws[i]?) = wc.map some)
    (kk : ∀ (r : Int32) (u : S) (H1 : Heap) (locs1 : List Loc), post r u → va_P D vwCl ws H1 → va_S A H0 H1 locs1 → W p l e R s m args below meth c H1 locs1 cells slots Q (F0 m (pc + 3) ls (.int r :: rest))) : W p l e R s m args below meth c H locs cells slots Q (F0 m pc ls st) := by
  have hFc := va_free (wc := wc) hD hS hA isC hC
  refine va_calli hr hS (fun q _ h => hFc q h) hFc (fun r u t H1 locs1 ht hvm hw hB hz1 hk1 hS1 => ?_)
  obtain ⟨hP1, hK1, hD1⟩ := hB
  rw [ht] at hP1
  exact kk r u H1 locs1 hw (z_ro hP hD isC hC hk1 hP1) hS1
theorem z_bwi {S : Type} {post : Int32 → S → Prop} {w2 ws' : S → va_W} {D : va_G} {cA : ClassId} {ws wc wr : va_W} {A : Nat → Prop} {H0 : Heap} {a : Array Value} {pc : Nat} {ls : Array Slot} {st rest : List Value} (hr : va_Run p l e R s m args below meth c H locs cells slots 0 0 (F0 m pc ls st) rest (va_Qi post (zB D cA (va_A wc H.size) w2) (va_A wc H.size) a) (va_A wc H.size))
    (hP : va_P D vwCl ws H) (hD : va_D A ws) (hS : va_S A H0 H locs) (hA : ∀ q, H0.size ≤ q → A q) (isC isR isP : List Nat) (hC : isC.map (fun i => ws[i]?) = wc.map some) (hR : isR.map (fun i => ws[i]?) = wr.map some) (hn : va_nd isR = true) (hdis : ∀ i ∈ isR, i ∉ isC) (hnP : va_nd isP = true) (hp : ∀ u, isP.map (fun i => (wr ++ w2 u)[i]?) = (ws' u).map some)
    (kk : ∀ (r : Int32) (u : S) (H1 : Heap) (locs1 : List Loc), post r u → va_P D vwCl (ws' u) H1 → va_D A (ws' u) → va_S A H0 H1 locs1 → W p l e R s m args below meth c H1 locs1 cells slots Q (F0 m (pc + 3) ls (.int r :: rest))) : W p l e R s m args below meth c H locs cells slots Q (F0 m pc ls st) := by
  have hFc := va_free (wc := wc) hD hS hA isC hC
  refine va_calli hr hS (fun q _ h => hFc q h) hFc (fun r u t H1 locs1 ht hvm hw hB hz1 hk1 hS1 => ?_)
  obtain ⟨hP1, hK1, hD1⟩ := hB
  rw [ht] at hP1
  obtain ⟨hP2, hD2⟩ := va_join (wr := wr) (w1 := w2 u) hP hD isC isR hC hR hn hdis hk1 hFc hP1 hD1
  exact kk r u H1 locs1 hw (hP2.sub isP (z_fm _ _ _ (hp u))) (hD2.sub isP hnP (hp u)) hS1
theorem z_brl {S : Type} {post : Int64 → S → Prop} {D : va_G} {cA : ClassId} {ws wc : va_W} {A : Nat → Prop} {H0 : Heap} {a : Array Value} {pc : Nat} {ls : Array Slot} {st rest : List Value} (hr : va_Run p l e R s m args below meth c H locs cells slots 0 0 (F0 m pc ls st) rest (va_Ql post (zB D cA (va_A wc H.size) (fun _ : S => wc)) (va_A wc H.size) a) (va_A wc H.size))
    (hP : va_P D vwCl ws H) (hD : va_D A ws) (hS : va_S A H0 H locs) (hA : ∀ q, H0.size ≤ q → A q) (isC : List Nat) (hC : isC.map (fun i => ws[i]?) = wc.map some)
    (kk : ∀ (r : Int64) (u : S) (H1 : Heap) (locs1 : List Loc), post r u → va_P D vwCl ws H1 → va_S A H0 H1 locs1 → W p l e R s m args below meth c H1 locs1 cells slots Q (F0 m (pc + 3) ls (.long r :: rest))) : W p l e R s m args below meth c H locs cells slots Q (F0 m pc ls st) := by
  have hFc := va_free (wc := wc) hD hS hA isC hC
  refine va_calll hr hS (fun q _ h => hFc q h) hFc (fun r u t H1 locs1 ht hvm hw hB hz1 hk1 hS1 => ?_)
  obtain ⟨hP1, hK1, hD1⟩ := hB
  rw [ht] at hP1
  exact kk r u H1 locs1 hw (z_ro hP hD isC hC hk1 hP1) hS1
theorem z_bwl {S : Type} {post : Int64 → S → Prop} {w2 ws' : S → va_W} {D : va_G} {cA : ClassId} {ws wc wr : va_W} {A : Nat → Prop} {H0 : Heap} {a : Array Value} {pc : Nat} {ls : Array Slot} {st rest : List Value} (hr : va_Run p l e R s m args below meth c H locs cells slots 0 0 (F0 m pc ls st) rest (va_Ql post (zB D cA (va_A wc H.size) w2) (va_A wc H.size) a) (va_A wc H.size))
    (hP : va_P D vwCl ws H) (hD : va_D A ws) (hS : va_S A H0 H locs) (hA : ∀ q, H0.size ≤ q → A q) (isC isR isP : List Nat) (hC : isC.map (fun i => ws[i]?) = wc.map some) (hR : isR.map (fun i => ws[i]?) = wr.map some) (hn : va_nd isR = true) (hdis : ∀ i ∈ isR, i ∉ isC) (hnP : va_nd isP = true) (hp : ∀ u, isP.map (fun i => (wr ++ w2 u)[i]?) = (ws' u).map some)
    (kk : ∀ (r : Int64) (u : S) (H1 : Heap) (locs1 : List Loc), post r u → va_P D vwCl (ws' u) H1 → va_D A (ws' u) → va_S A H0 H1 locs1 → W p l e R s m args below meth c H1 locs1 cells slots Q (F0 m (pc + 3) ls (.long r :: rest))) : W p l e R s m args below meth c H locs cells slots Q (F0 m pc ls st) := by
  have hFc := va_free (wc := wc) hD hS hA isC hC
  refine va_calll hr hS (fun q _ h => hFc q h) hFc (fun r u t H1 locs1 ht hvm hw hB hz1 hk1 hS1 => ?_)
  obtain ⟨hP1, hK1, hD1⟩ := hB
  rw [ht] at hP1
  obtain ⟨hP2, hD2⟩ := va_join (wr := wr) (w1 := w2 u) hP hD isC isR hC hR hn hdis hk1 hFc hP1 hD1
  exact kk r u H1 locs1 hw (hP2.sub isP (z_fm _ _ _ (hp u))) (hD2.sub isP hnP (hp u)) hS1
theorem z_bwv {S : Type} {post : S → Prop} {w2 ws' : S → va_W} {D : va_G} {cA : ClassId} {ws wc wr : va_W} {A : Nat → Prop} {H0 : Heap} {a : Array Value} {pc : Nat} {ls : Array Slot} {st rest : List Value} (hr : va_Run p l e R s m args below meth c H locs cells slots 0 0 (F0 m pc ls st) rest (va_Qv post (zB D cA (va_A wc H.size) w2) (va_A wc H.size) a) (va_A wc H.size))
    (hP : va_P D vwCl ws H) (hD : va_D A ws) (hS : va_S A H0 H locs) (hA : ∀ q, H0.size ≤ q → A q) (isC isR isP : List Nat) (hC : isC.map (fun i => ws[i]?) = wc.map some) (hR : isR.map (fun i => ws[i]?) = wr.map some) (hn : va_nd isR = true) (hdis : ∀ i ∈ isR, i ∉ isC) (hnP : va_nd isP = true) (hp : ∀ u, isP.map (fun i => (wr ++ w2 u)[i]?) = (ws' u).map some)
    (kk : ∀ (u : S) (H1 : Heap) (locs1 : List Loc), post u → va_P D vwCl (ws' u) H1 → va_D A (ws' u) → va_S A H0 H1 locs1 → W p l e R s m args below meth c H1 locs1 cells slots Q (F0 m (pc + 3) ls rest)) : W p l e R s m args below meth c H locs cells slots Q (F0 m pc ls st) := by
  have hFc := va_free (wc := wc) hD hS hA isC hC
  refine va_callv hr hS (fun q _ h => hFc q h) hFc (fun u t H1 locs1 ht hvm hw hB hz1 hk1 hS1 => ?_)
  obtain ⟨hP1, hK1, hD1⟩ := hB
  rw [ht] at hP1
  obtain ⟨hP2, hD2⟩ := va_join (wr := wr) (w1 := w2 u) hP hD isC isR hC hR hn hdis hk1 hFc hP1 hD1
  exact kk u H1 locs1 hw (hP2.sub isP (z_fm _ _ _ (hp u))) (hD2.sub isP hnP (hp u)) hS1
-- ends
theorem z_iret {S : Type} {post : Int32 → S → Prop} {w2 : S → va_W} {D : va_G} {cA : ClassId} {A : Nat → Prop} {cc : ByteArray} {ty : FieldType} {v : Int32} {pc : Nat} {ls : Array Slot} (u : S) (hx : p.tables.exec = Jvm.exec) (hb : c.code = cc) (hr : meth.sig.returnType = some ty) (hn : narrow ty (.int v) = .int v) (hlocks : meth.locks = false) (hK : va_K D vwCl [(cA, .int)] s) (hP : va_P D vwCl (w2 u) H) (hD : va_D A (w2 u)) (hS : va_S A s.heap H locs) (hpost : post v u) (hdg : decode cc pc = .ok (.ireturn, 1)) :
    W p l e R s m args below meth c H locs cells slots (MQ below (va_Qi post (zB D cA A w2) A) args s cells slots A) (F0 m pc ls [.int v]) :=
  W.zret hx hb hr hn (fun t ht hW => ⟨⟨v, u, rfl, hpost, by rw [ht]; exact hP, va_K.moved hW.alike hK, hD⟩, hS.F ht⟩) hS.2.2 hdg hlocks
theorem z_lret {S : Type} {post : Int64 → S → Prop} {w2 : S → va_W} {D : va_G} {cA : ClassId} {A : Nat → Prop} {cc : ByteArray} {v : Int64} {pc : Nat} {ls : Array Slot} (u : S) (hx : p.tables.exec = Jvm.exec) (hb : c.code = cc) (hr : meth.sig.returnType = some .long) (hlocks : meth.locks = false) (hK : va_K D vwCl [(cA, .int)] s) (hP : va_P D vwCl (w2 u) H) (hD : va_D A (w2 u)) (hS : va_S A s.heap H locs) (hpost : post v u) (hdg : decode cc pc = .ok (.lreturn, 1)) :
    W p l e R s m args below meth c H locs cells slots (MQ below (va_Ql post (zB D cA A w2) A) args s cells slots A) (F0 m pc ls [.long v]) :=
  W.lret hx hb hr (fun t ht hW => ⟨⟨v, u, rfl, hpost, by rw [ht]; exact hP, va_K.moved hW.alike hK, hD⟩, hS.F ht⟩) hS.2.2 hdg hlocks
theorem z_vret {S : Type} {post : S → Prop} {w2 : S → va_W} {D : va_G} {cA : ClassId} {A : Nat → Prop} {cc : ByteArray} {pc : Nat} {ls : Array Slot} (u : S) (hx : p.tables.exec = Jvm.exec) (hb : c.code = cc) (hr : meth.sig.returnType = none) (hlocks : meth.locks = false) (hK : va_K D vwCl [(cA, .int)] s) (hP : va_P D vwCl (w2 u) H) (hD : va_D A (w2 u)) (hS : va_S A s.heap H locs) (hpost : post u) (hdg : decode cc pc = .ok (.return_, 1)) :
    W p l e R s m args below meth c H locs cells slots (MQ below (va_Qv post (zB D cA A w2) A) args s cells slots A) (F0 m pc ls []) :=
  W.vret hx hb hr (fun t ht hW => ⟨⟨u, rfl, hpost, by rw [ht]; exact hP, va_K.moved hW.alike hK, hD⟩, hS.F ht⟩) hS.2.2 hdg hlocks
end ZRun
/-- what holds at a method's entry -/
def zIn (p : Program) (s : State) (m : MethodId) (meth : Method) (c : Code) (cc : ByteArray) (own : String) (ret : Option FieldType) (maxL : Nat) (wsT : List Cond) (args : Array Value) : Prop :=
  p.tables.exec = Jvm.exec ∧ c.code = cc ∧ meth.sig.returnType = ret ∧ c.maxLocals = maxL ∧ s.vm.findClass own = some m.cls ∧ (∀ w ∈ wsT, w.before args s = true) ∧ meth.locks = false ∧ zN s
theorem z_enter {l : Launch} {y : MethodName} {wsT ws' : List Cond} {rm : Room} {cc : ByteArray} {maxL : Nat} {ret : Option FieldType} {D : va_G} {cA : ClassId} {ws : va_W} {av : List Value} {Qc : Nat → Array Value → State → Outcome → State → Prop}
    (hy : plainName y.cls = true) (hw : wsT = Cond.code y cc maxL ret :: ws') (hlen : (lg_sl av).length ≤ maxL)
    (body : ∀ (p : Program) (e : Env) (s : State) (m : MethodId) (below : List Frame) (meth : Method) (c : Code) (ls : Array Slot), zIn p s m meth c cc y.cls ret maxL wsT av.toArray → va_K D vwCl [(cA, .int)] s → va_P D vwCl ws s.heap → va_D (va_A ws s.heap.size) ws → lv_has ls maxL (lv_args 0 av) →
      W p l e rm s m av.toArray below meth c s.heap [] 0 0 (MQ below (Qc s.heap.size) av.toArray s 0 0 (va_A ws s.heap.size)) (F0 m 0 ls [])) :
    ∀ sz : Nat, Met l y wsT rm (zPc D cA ws sz av) (Qc sz) 0 0 (va_A ws sz) := by
  intro sz
  refine Met.ofW (cc := cc) (maxL := maxL) (ret := ret) hy hw ?_
  intro p e s m args below meth c s₁ B hml hv
  obtain ⟨rfl, hsz, hP, hK, hD0, hN⟩ := hv
  have hts := atoms_spec (ws := wsT) B.pre
  have hown : s.vm.findClass y.cls = some m.cls := findClass_of_methodNamed B.named
  subst hsz
  rw [lg_entry_eq]
  exact body p e s m below meth c _ ⟨B.exec, B.bytes, B.returns, hml, hown, hts, B.notSynchronized, hN⟩ hK hP hD0.self (lv_entry av hlen)
theorem z_enteri {l : Launch} {y : MethodName} {wsT ws' : List Cond} {rm : Room} {cc : ByteArray} {maxL : Nat} {ty : FieldType} {D : va_G} {cA : ClassId} {ws : va_W} {av : List Value} {S : Type} {post : Int32 → S → Prop} {w2 : S → va_W}
    (hy : plainName y.cls = true) (hw : wsT = Cond.code y cc maxL (some ty) :: ws') (hlen : (lg_sl av).length ≤ maxL)
    (body : ∀ (p : Program) (e : Env) (s : State) (m : MethodId) (args : Array Value) (below : List Frame) (meth : Method) (c : Code) (ls : Array Slot) (A : Nat → Prop) (H0 H : Heap) (locs : List Loc) (Q : State → Prop), zIn p s m meth c cc y.cls (some ty) maxL wsT args → (∀ q : Nat, H0.size ≤ q → A q) → va_K D vwCl [(cA, .int)] s → va_P D vwCl ws H → va_D A ws → va_S A H0 H locs → lv_has ls maxL (lv_args 0 av) →
      (∀ (v : Int32) (u : S) (pc : Nat) (ls : Array Slot) (H : Heap) (locs : List Loc), decode cc pc = .ok (.ireturn, 1) → narrow ty (.int v) = .int v → post v u → va_P D vwCl (w2 u) H → va_D A (w2 u) → va_S A H0 H locs → W p l e rm s m args below meth c H locs 0 0 Q (F0 m pc ls [.int v])) →
      W p l e rm s m args below meth c H locs 0 0 Q (F0 m 0 ls [])) :
    zMi l y wsT rm D cA ws av post w2 := by
  unfold zMi
  refine z_enter hy hw hlen (fun p e s m below meth c ls hi hK hP hD hl => ?_)
  obtain ⟨hx, hb, hr, -, -, -, hlocks, -⟩ := id hi
  exact body p e s m _ below meth c ls _ s.heap s.heap [] _ hi (fun q h => Or.inr h) hK hP hD va_S.rf hl (fun v u pc ls H locs hdg hn hp hP hD hS => z_iret u hx hb hr hn hlocks hK hP hD hS hp hdg)
theorem z_enterl {l : Launch} {y : MethodName} {wsT ws' : List Cond} {rm : Room} {cc : ByteArray} {maxL : Nat} {D : va_G} {cA : ClassId} {ws : va_W} {av : List Value} {S : Type} {post : Int64 → S → Prop} {w2 : S → va_W}
    (hy : plainName y.cls = true) (hw : wsT = Cond.code y cc maxL (some .long) :: ws') (hlen : (lg_sl av).length ≤ maxL)
    (body : ∀ (p : Program) (e : Env) (s : State) (m : MethodId) (args : Array Value) (below : List Frame) (meth : Method) (c : Code) (ls : Array Slot) (A : Nat → Prop) (H0 H : Heap) (locs : List Loc) (Q : State → Prop), zIn p s m meth c cc y.cls (some .long) maxL wsT args → (∀ q : Nat, H0.size ≤ q → A q) → va_K D vwCl [(cA, .int)] s → va_P D vwCl ws H → va_D A ws → va_S A H0 H locs → lv_has ls maxL (lv_args 0 av) →
      (∀ (v : Int64) (u : S) (pc : Nat) (ls : Array Slot) (H : Heap) (locs : List Loc), decode cc pc = .ok (.lreturn, 1) → post v u → va_P D vwCl (w2 u) H → va_D A (w2 u) → va_S A H0 H locs → W p l e rm s m args below meth c H locs 0 0 Q (F0 m pc ls [.long v])) →
      W p l e rm s m args below meth c H locs 0 0 Q (F0 m 0 ls [])) :
    zMl l y wsT rm D cA ws av post w2 := by
  unfold zMl
  refine z_enter hy hw hlen (fun p e s m below meth c ls hi hK hP hD hl => ?_)
  obtain ⟨hx, hb, hr, -, -, -, hlocks, -⟩ := id hi
  exact body p e s m _ below meth c ls _ s.heap s.heap [] _ hi (fun q h => Or.inr h) hK hP hD va_S.rf hl (fun v u pc ls H locs hdg hp hP hD hS => z_lret u hx hb hr hlocks hK hP hD hS hp hdg)
theorem z_enterv {l : Launch} {y : MethodName} {wsT ws' : List Cond} {rm : Room} {cc : ByteArray} {maxL : Nat} {D : va_G} {cA : ClassId} {ws : va_W} {av : List Value} {S : Type} {post : S → Prop} {w2 : S → va_W}
    (hy : plainName y.cls = true) (hw : wsT = Cond.code y cc maxL none :: ws') (hlen : (lg_sl av).length ≤ maxL)
    (body : ∀ (p : Program) (e : Env) (s : State) (m : MethodId) (args : Array Value) (below : List Frame) (meth : Method) (c : Code) (ls : Array Slot) (A : Nat → Prop) (H0 H : Heap) (locs : List Loc) (Q : State → Prop), zIn p s m meth c cc y.cls none maxL wsT args → (∀ q : Nat, H0.size ≤ q → A q) → va_K D vwCl [(cA, .int)] s → va_P D vwCl ws H → va_D A ws → va_S A H0 H locs → lv_has ls maxL (lv_args 0 av) →
      (∀ (u : S) (pc : Nat) (ls : Array Slot) (H : Heap) (locs : List Loc), decode cc pc = .ok (.return_, 1) → post u → va_P D vwCl (w2 u) H → va_D A (w2 u) → va_S A H0 H locs → W p l e rm s m args below meth c H locs 0 0 Q (F0 m pc ls [])) →
      W p l e rm s m args below meth c H locs 0 0 Q (F0 m 0 ls [])) :
    zMv l y wsT rm D cA ws av post w2 := by
  unfold zMv
  refine z_enter hy hw hlen (fun p e s m below meth c ls hi hK hP hD hl => ?_)
  obtain ⟨hx, hb, hr, -, -, -, hlocks, -⟩ := id hi
  exact body p e s m _ below meth c ls _ s.heap s.heap [] _ hi (fun q h => Or.inr h) hK hP hD va_S.rf hl (fun u pc ls H locs hdg hp hP hD hS => z_vret u hx hb hr hlocks hK hP hD hS hp hdg)
/-! own numbers -/
def bI (b : Bool) : Int32 := if b then 1 else 0
theorem bI_t : bI true = 1 := rfl
theorem bI_f : bI false = 0 := rfl
theorem bI_0 {b : Bool} : bI b = 0 ↔ b = false := by cases b <;> decide
theorem bI_n0 {b : Bool} : ¬ bI b = 0 ↔ b = true := by cases b <;> decide
theorem bI_1 {b : Bool} : bI b = 1 ↔ b = true := by cases b <;> decide
theorem bI_nar (b : Bool) : narrow .boolean (.int (bI b)) = .int (bI b) := by cases b <;> rfl
def jMax (x y : Int32) : Int32 := if x < y then y else x
def jMin (x y : Int32) : Int32 := if y < x then y else x
section ZTop
variable {p : Program} {l : Launch} {e : Env} {R : Room} {s : State} {m : MethodId} {args : Array Value} {below : List Frame} {meth : Method} {c : Code} {H : Heap} {locs : List Loc} {cells slots : Nat} {Q : State → Prop}
theorem z_top {x y : Int32} {pc : Nat} {ls : Array Slot} {rest : List Value} (h : x = y) (k : W p l e R s m args below meth c H locs cells slots Q (F0 m pc ls (.int y :: rest))) : W p l e R s m args below meth c H locs cells slots Q (F0 m pc ls (.int x :: rest)) := by
  subst h
  exact k
end ZTop
theorem z_toInt {x : Int32} {k : Int} (h : x.toInt = k) (y : Int32) (hy : y.toInt = k) : x = y := Int32.toInt_inj.mp (h.trans hy.symm)
theorem z_out0_1 {x : Int32} (h0 : ¬ x = 0) (h1 : ¬ x = 1) : x.toInt < 0 ∨ 1 < x.toInt := by
  have a0 : ¬ x.toInt = 0 := fun h => h0 (z_toInt h 0 rfl)
  have a1 : ¬ x.toInt = 1 := fun h => h1 (z_toInt h 1 rfl)
  omega
theorem z_out0_3 {x : Int32} (h0 : ¬ x = 0) (h1 : ¬ x = 1) (h2 : ¬ x = 2) (h3 : ¬ x = 3) : x.toInt < 0 ∨ 3 < x.toInt := by
  have a0 : ¬ x.toInt = 0 := fun h => h0 (z_toInt h 0 rfl)
  have a1 : ¬ x.toInt = 1 := fun h => h1 (z_toInt h 1 rfl)
  have a2 : ¬ x.toInt = 2 := fun h => h2 (z_toInt h 2 rfl)
  have a3 : ¬ x.toInt = 3 := fun h => h3 (z_toInt h 3 rfl)
  omega
theorem z_out0_5 {x : Int32} (h0 : ¬ x = 0) (h1 : ¬ x = 1) (h2 : ¬ x = 2) (h3 : ¬ x = 3) (h4 : ¬ x = 4) (h5 : ¬ x = 5) : x.toInt < 0 ∨ 5 < x.toInt := by
  have a0 : ¬ x.toInt = 0 := fun h => h0 (z_toInt h 0 rfl)
  have a1 : ¬ x.toInt = 1 := fun h => h1 (z_toInt h 1 rfl)
  have a2 : ¬ x.toInt = 2 := fun h => h2 (z_toInt h 2 rfl)
  have a3 : ¬ x.toInt = 3 := fun h => h3 (z_toInt h 3 rfl)
  have a4 : ¬ x.toInt = 4 := fun h => h4 (z_toInt h 4 rfl)
  have a5 : ¬ x.toInt = 5 := fun h => h5 (z_toInt h 5 rfl)
  omega
theorem z_out0_11 {x : Int32} (h0 : ¬ x = 0) (h1 : ¬ x = 1) (h2 : ¬ x = 2) (h3 : ¬ x = 3) (h4 : ¬ x = 4) (h5 : ¬ x = 5) (h6 : ¬ x = 6) (h7 : ¬ x = 7) (h8 : ¬ x = 8) (h9 : ¬ x = 9) (h10 : ¬ x = 10) (h11 : ¬ x = 11) : x.toInt < 0 ∨ 11 < x.toInt := by
  have a0 : ¬ x.toInt = 0 := fun h => h0 (z_toInt h 0 rfl)
  have a1 : ¬ x.toInt = 1 := fun h => h1 (z_toInt h 1 rfl)
  have a2 : ¬ x.toInt = 2 := fun h => h2 (z_toInt h 2 rfl)
  have a3 : ¬ x.toInt = 3 := fun h => h3 (z_toInt h 3 rfl)
  have a4 : ¬ x.toInt = 4 := fun h => h4 (z_toInt h 4 rfl)
  have a5 : ¬ x.toInt = 5 := fun h => h5 (z_toInt h 5 rfl)
  have a6 : ¬ x.toInt = 6 := fun h => h6 (z_toInt h 6 rfl)
  have a7 : ¬ x.toInt = 7 := fun h => h7 (z_toInt h 7 rfl)
  have a8 : ¬ x.toInt = 8 := fun h => h8 (z_toInt h 8 rfl)
  have a9 : ¬ x.toInt = 9 := fun h => h9 (z_toInt h 9 rfl)
  have a10 : ¬ x.toInt = 10 := fun h => h10 (z_toInt h 10 rfl)
  have a11 : ¬ x.toInt = 11 := fun h => h11 (z_toInt h 11 rfl)
  omega
theorem z_in {i : Int32} {n : Nat} (hn : n < 2147483648) (h0 : 0 ≤ i) (h1 : i < nI n) : vp_in i n := by
  unfold vp_in
  rw [Int32.le_iff_toInt_le] at h0
  rw [Int32.lt_iff_toInt_lt, nI_toInt hn] at h1
  rintro (h | h)
  · rw [Int32.lt_iff_toInt_lt] at h
    have : (0 : Int32).toInt = 0 := rfl
    omega
  · have e : (i.toNatClampNeg : Int) = max i.toInt 0 := by rw [← Int32.toNat_toInt]; omega
    have : (0 : Int32).toInt = 0 := rfl
    omega
theorem z_inN {i n : Nat} (h : i < n) (hn : n < 2147483648) : vp_in (nI i) n := by
  refine z_in hn ?_ ?_
  · rw [Int32.le_iff_toInt_le, nI_toInt (by omega)]; show (0 : Int) ≤ i; omega
  · rw [Int32.lt_iff_toInt_lt, nI_toInt (by omega), nI_toInt hn]; omega
theorem z_nat {i : Nat} (h : i < 2147483648) : (nI i).toNatClampNeg = i := by
  rw [← Int32.toNat_toInt, nI_toInt h]; omega
-- level 0: small methods
def jAt (n : Nat) (f : Nat → Int32) (p : Int32) : Int32 := if 0 ≤ p ∧ p < nI n then f p.toNatClampNeg else 0
def jPut (n : Nat) (f : Nat → Int32) (p x : Int32) : Nat → Int32 := if 0 ≤ p ∧ p < nI n then upd f p.toNatClampNeg x else f
def jIsIn (s o : Int32) : Bool := decide (0 ≤ s ∧ s < 5) && decide ((o >>> (s &&& 31)) &&& 1 = 1)
end
section
/-! level 0: what the small methods answer, as they stand -/
def pI (L : Nat) : Int32 := nI L - 1
theorem jAt_nI {n i : Nat} {f : Nat → Int32} (h : i < n) (hn : n < 2147483648) : jAt n f (nI i) = f i := by
  unfold jAt
  rw [if_pos ⟨nI_pos' (by omega), nI_lt h (by omega)⟩, z_nat (by omega)]
theorem jPut_nI {n i : Nat} {f : Nat → Int32} {v : Int32} (h : i < n) (hn : n < 2147483648) : jPut n f (nI i) v = upd f i v := by
  unfold jPut
  rw [if_pos ⟨nI_pos' (by omega), nI_lt h (by omega)⟩, z_nat (by omega)]
def jNext (x : Int64) : Int64 := 1103515245 * x + 12345 - (1103515245 * x + 12345) / 2147483648 * 2147483648
-- the page
def jCode (n : Nat) (f : Nat → Int32) (x : Int32) : Int32 := if 0 ≤ x ∧ x < nI n then f x.toNatClampNeg else 0
theorem jCode_nI {n i : Nat} {f : Nat → Int32} (h : i < n) (hn : n < 2147483648) : jCode n f (nI i) = f i := by
  unfold jCode
  rw [if_pos ⟨nI_pos' (by omega), nI_lt h (by omega)⟩, z_nat (by omega)]
def jKindOf (c : Int32) : Int32 := if c = 101 then 2 else if c = 102 then 3 else if c = 109 then 4 else if c = 115 then 0 else if c = 119 then 1 else -1
def jDueM (c s : Int32) : Int32 := if c = 44 ∧ s < 5 then 0 else if c = 59 ∧ 2 ≤ s then 3 else 5
def jDue (d c s : Int32) : Int32 := if d = 0 then (if jKindOf c = -1 then 5 else 1) else if d = 1 then (if c = 48 ∨ c = 49 then 2 else 5) else if d = 2 then jDueM c s else if d = 3 then (if 49 ≤ c ∧ c ≤ 57 then 4 else 5) else 5
def jFF (f : Nat → Int32) : Nat → Nat → Int32 → Int32 → Nat
  | 0, p, _, _ => p
  | k + 1, p, d, s => if jDue d (f p) (if d = 0 then s + 1 else s) = 5 then p else jFF f k (p + 1) (jDue d (f p) (if d = 0 then s + 1 else s)) (if d = 0 then s + 1 else s)
def jWhole (n : Nat) (f : Nat → Int32) : Bool := decide (2 ≤ n) && decide (f (n - 2) = 59) && decide (jFF f n 0 0 0 = n)
-- the bench
def jKind (N : Nat) (kf : Nat → Int32) (x : Int32) : Int32 := if 0 ≤ x ∧ x < nI N then kf x.toNatClampNeg else -1
theorem jKind_nI {N s : Nat} {kf : Nat → Int32} (h : s < N) (hN : N ≤ 5) : jKind N kf (nI s) = kf s := by
  unfold jKind
  rw [if_pos ⟨nI_pos' (by omega), nI_lt h (by omega)⟩, z_nat (by omega)]
def jHas (N : Nat) (x : Int32) : Bool := decide (0 ≤ x) && decide (x < nI N)
def jNames (N : Nat) (x : Int32) : Bool := decide (0 ≤ x) && decide (x < 1 <<< (nI N &&& 31))
def jIsOf (N : Nat) (kf : Nat → Int32) (x k : Int32) : Bool := jHas N x && (decide (k = 0) || decide (k = jKind N kf x) || (decide (k = 1) && decide (jKind N kf x = 4)))
def jBeside (N : Nat) (last x : Int32) : Bool := decide (0 ≤ last) && decide (last < nI N) && (decide (last = x - 1) || decide (last = x + 1))
def jCounts (N : Nat) (kf : Nat → Int32) (x last o : Int32) : Bool := !(decide (jKind N kf x = -1) || decide (jKind N kf x = 4) || jIsIn x o) && (!decide (jKind N kf x = 1) || jBeside N last x)
def jBel (N : Nat) (kf : Nat → Int32) (x last : Int32) : Int32 := if last = -1 ∨ jKind N kf x = 2 then -1 else if jKind N kf x = 3 then (if x = 0 then nI N - 1 else x - 1) else x
def jLast (N : Nat) (kf : Nat → Int32) (x : Int32) : Int32 := if jKind N kf x = 2 then 5 else x
theorem z_lkKind {x : Int32} (h1 : ¬ x = 101) (h2 : ¬ x = 102) (h3 : ¬ x = 109) (h4 : ¬ x = 115) (h5 : ¬ x = 119) : Op.lookupswitch.offset (#[(101, 55), (102, 57), (109, 59), (115, 51), (119, 53)] : Array (Int × Int)).toList 61 x.toInt = 61 := by
  show Op.lookupswitch.offset [(101, 55), (102, 57), (109, 59), (115, 51), (119, 53)] 61 x.toInt = 61
  have a1 : ¬ (101 : Int) = x.toInt := fun h => h1 (z_toInt h.symm 101 rfl)
  have a2 : ¬ (102 : Int) = x.toInt := fun h => h2 (z_toInt h.symm 102 rfl)
  have a3 : ¬ (109 : Int) = x.toInt := fun h => h3 (z_toInt h.symm 109 rfl)
  have a4 : ¬ (115 : Int) = x.toInt := fun h => h4 (z_toInt h.symm 115 rfl)
  have a5 : ¬ (119 : Int) = x.toInt := fun h => h5 (z_toInt h.symm 119 rfl)
  rw [Op.lookupswitch.offset_cons, if_neg a1, Op.lookupswitch.offset_cons, if_neg a2, Op.lookupswitch.offset_cons, if_neg a3, Op.lookupswitch.offset_cons, if_neg a4, Op.lookupswitch.offset_cons, if_neg a5]
  rfl
theorem jFF_le (f : Nat → Int32) : ∀ (k p : Nat) (d s : Int32), jFF f k p d s ≤ p + k
  | 0, p, d, s => by simp [jFF]
  | k + 1, p, d, s => by
    by_cases h : jDue d (f p) (if d = 0 then s + 1 else s) = 5
    · rw [jFF, if_pos h]; omega
    · rw [jFF, if_neg h]
      have := jFF_le f k (p + 1) (jDue d (f p) (if d = 0 then s + 1 else s)) (if d = 0 then s + 1 else s)
      omega
theorem z_sub {a b : Nat} (h : b ≤ a) : nI a - nI b = nI (a - b) := by
  have e : a = (a - b) + b := by omega
  have h1 : nI a = nI (a - b) + nI b := by rw [nI_add]; exact congrArg nI e
  rw [h1, Int32.add_sub_cancel]
theorem z_ltM {N M : Nat} {x : Int32} (h5 : N ≤ M) (hM : M < 2147483648) (h : x < nI N) : x < nI M := by
  rw [Int32.lt_iff_toInt_lt, nI_toInt (by omega)] at h ⊢
  omega
-- the trial
def jWon (k x w : Int32) : Int32 := if x = k then w + 1 else w
def jBr (N : Nat) (kf : Nat → Int32) (ou la who : Int32) : Nat → Int32 × Int32 × Int32
  | 0 => (0, 0, -1)
  | i + 1 => if jIsIn (nI i) who && jCounts N kf (nI i) la ou then ((jBr N kf ou la who i).1 + 1, (jBr N kf ou la who i).2.1 ||| (1 <<< (nI i &&& 31)), nI i) else jBr N kf ou la who i
/-- a trial's numbers: last, believed, out, silence, ended, won by 0, by 1, breaths; how many words each spoke -/
abbrev jT : Type := Int32 × Int32 × Int32 × Int32 × Int32 × Int32 × Int32 × Int32 × (Nat → Int32)
def jQuiet (N : Nat) (sf : Nat → Int32) (pt la be ou si en w0 w1 br : Int32) (fw : Nat → Int32) : jT :=
  if pt ≤ si + 1 then (-1, -1, 0, 0, en + 1, jWon 0 (jKind N sf be) w0, jWon 1 (jKind N sf be) w1, br, fw) else (la, be, ou, si + 1, en, w0, w1, br, fw)
def jSpeak (N : Nat) (kf : Nat → Int32) (x la be : Int32) (fw : Nat → Int32) : Int32 × Int32 × (Nat → Int32) :=
  if x = la then (la, be, jPut 5 fw x (jAt 5 fw x + 1)) else (jLast N kf x, jBel N kf x la, jPut 5 fw x (jAt 5 fw x + 1))
def jBreathe (N : Nat) (kf sf : Nat → Int32) (pt who la be ou si en w0 w1 br : Int32) (fw : Nat → Int32) : jT :=
  if (jBr N kf ou la who 5).1 = 0 then jQuiet N sf pt la be ou si en w0 w1 (br + 1) fw
  else if (jBr N kf ou la who 5).1 = 1 then ((jSpeak N kf (jBr N kf ou la who 5).2.2 la be fw).1, (jSpeak N kf (jBr N kf ou la who 5).2.2 la be fw).2.1, ou, 0, en, w0, w1, br + 1, (jSpeak N kf (jBr N kf ou la who 5).2.2 la be fw).2.2)
  else (la, be, ou ||| (jBr N kf ou la who 5).2.1, 0, en, w0, w1, br + 1, fw)
def jAllows (t : Nat) (ftw fts : Nat → Int32) (x y : Int32) : Bool := decide (∀ i, i < t → ftw i = x → fts i = y)
theorem pI_0 : pI 0 = -1 := by decide
theorem pI_1 (L : Nat) : pI L + 1 = pI (L + 1) := by
  unfold pI
  rw [nI_succ, Int32.sub_add_cancel, Int32.add_sub_cancel]
theorem pI_s (L : Nat) : pI L + 1 = nI L := by
  unfold pI
  rw [Int32.sub_add_cancel]
theorem pI_up (s : Nat) : nI s = pI (s + 1) := by rw [← pI_1, pI_s]
theorem pI_7 : ∀ L : Nat, L < 8 → (5 < pI L ↔ 7 ≤ L) := by decide
theorem pI_6 : ∀ L : Nat, L < 8 → (5 ≤ pI L ↔ 6 ≤ L) := by decide
theorem pI_ne : ∀ L : Nat, L < 8 → ∀ s : Nat, s < 8 → (nI s = pI L ↔ L = s + 1) := by decide
theorem nI_mul (a b : Nat) : nI a * nI b = nI (a * b) := (Int32.ofNat_mul a b).symm
theorem wp_eq (L s : Nat) : (pI L + 1) * 5 + nI s = nI (5 * L + s) := by
  rw [pI_s]
  show nI L * nI 5 + nI s = _
  rw [nI_mul, nI_add, Nat.mul_comm]
theorem rp_eq (w L : Nat) : nI w * 7 + pI L + 1 = nI (7 * w + L) := by
  rw [Int32.add_assoc, pI_s]
  show nI w * nI 7 + nI L = _
  rw [nI_mul, nI_add, Nat.mul_comm]
theorem op_eq (L B : Nat) : (pI L + 1) * 6 + pI B + 1 = nI (6 * L + B) := by
  rw [pI_s, Int32.add_assoc, pI_s]
  show nI L * nI 6 + nI B = _
  rw [nI_mul, nI_add, Nat.mul_comm]
theorem z_fs {n k : Nat} {g h : Nat → Int32} {v : Int32} (hk : k < n) (hn : n < 2147483648) (hg : ∀ p, p < k → g p = h p) (hv : v = h k) : ∀ p, p < k + 1 → jPut n g (nI k) v p = h p := by
  intro p hp
  rw [jPut_nI hk hn]
  unfold upd
  split
  · rename_i e; rw [e]; exact hv
  · exact hg p (by omega)
-- the outlook
def jCan (N : Nat) (kf : Nat → Int32) (ou : Int32) (L s : Nat) : Bool := !decide (nI s = pI L) && jCounts N kf (nI s) (pI L) ou
def jLT (N : Nat) (kf : Nat → Int32) (ou : Int32) : Nat → Int32 := fun p => if jCan N kf ou (p / 5) (p % 5) then jLast N kf (nI (p % 5)) else -2
def jBT (N : Nat) (kf : Nat → Int32) (ou : Int32) : Nat → Int32 := fun p => if jCan N kf ou (p / 5) (p % 5) then jBel N kf (nI (p % 5)) (pI (p / 5)) else -1
theorem jLT_at {N : Nat} {kf : Nat → Int32} {ou : Int32} {L s : Nat} (hs : s < 5) : jLT N kf ou (5 * L + s) = if jCan N kf ou L s then jLast N kf (nI s) else -2 := by
  unfold jLT
  rw [show (5 * L + s) / 5 = L from by omega, show (5 * L + s) % 5 = s from by omega]
theorem jBT_at {N : Nat} {kf : Nat → Int32} {ou : Int32} {L s : Nat} (hs : s < 5) : jBT N kf ou (5 * L + s) = if jCan N kf ou L s then jBel N kf (nI s) (pI L) else -1 := by
  unfold jBT
  rw [show (5 * L + s) / 5 = L from by omega, show (5 * L + s) % 5 = s from by omega]
/-- by how few words, by a seat, from a last one -/
def jSB (lt bt st : Nat → Int32) (s L : Nat) (x : Int32) : Int32 := if lt (5 * L + s) = -2 then 1000 else if bt (5 * L + s) = x then 1 else jMin 1000 (1 + jAt 7 st (lt (5 * L + s) + 1))
def jRow (lt bt st : Nat → Int32) (L : Nat) (x : Int32) : Nat → Int32
  | 0 => 1000
  | s + 1 => jMin (jRow lt bt st L x s) (jSB lt bt st s L x)
def jAim (lt bt : Nat → Int32) (x : Int32) : Nat → Nat → Int32
  | 0 => fun _ => 1000
  | k + 1 => upd (jAim lt bt x k) (k % 7) (jRow lt bt (jAim lt bt x k) (k % 7) x 5)
def jFew (st : Nat → Int32) (la be x : Int32) : Int32 := if be = x then 0 else if jAt 7 st (la + 1) < 1000 then jAt 7 st (la + 1) else -1
def jFind (P : Nat → Bool) : Nat → Nat → Int32
  | 0, _ => -1
  | k + 1, s => if P s then nI s else jFind P k (s + 1)
def jWE (N : Nat) (sf : Nat → Int32) (x : Int32) : Int32 := if jKind N sf x = 0 then 1 else if jKind N sf x = 1 then -1 else 0
def jBetter (side x y : Int32) : Int32 := if side = 0 then jMax x y else jMin x y
def jTurn (N : Nat) (sf lt : Nat → Int32) (side : Int32) (s L : Nat) : Bool := decide (jKind N sf (nI s) = side) && !decide (lt (5 * L + s) = -2)
def jWB (lt bt w : Nat → Int32) (s L : Nat) : Int32 := jAt 42 w ((lt (5 * L + s) + 1) * 6 + bt (5 * L + s) + 1)
def jBy (N : Nat) (sf lt bt w : Nat → Int32) (side : Int32) (L : Nat) : Nat → Int32
  | 0 => if side = 0 then -1000 else 1000
  | s + 1 => if jTurn N sf lt side s L then jBetter side (jBy N sf lt bt w side L s) (jWB lt bt w s L) else jBy N sf lt bt w side L s
def jWBr (N : Nat) (sf lt bt : Nat → Int32) (side : Int32) (w : Nat → Int32) : Nat → Int32 := fun p => jBetter side (w p) (jBy N sf lt bt w side (p / 6) 5)
def jEnd (N : Nat) (sf : Nat → Int32) : Nat → Int32 := fun p => jWE N sf (pI (p % 6))
/-- the worths when the breaths b - 1, .., d stand behind -/
def jWeigh (N : Nat) (sf lt bt : Nat → Int32) : Nat → Nat → Nat → Int32
  | 0, _ => jEnd N sf
  | k + 1, d => jWBr N sf lt bt (nI (d % 2)) (jWeigh N sf lt bt k (d + 1))
def jBest (N : Nat) (sf lt bt w : Nat → Int32) (L B : Nat) : Int32 := jBetter 0 (w (6 * L + B)) (jBy N sf lt bt w 0 L 5)
def jOpen (N : Nat) (sf lt bt w : Nat → Int32) (L B : Nat) : Int32 := if w (6 * L + B) = jBest N sf lt bt w L B then -1 else jFind (fun s => jTurn N sf lt 0 s L && decide (jWB lt bt w s L = jBest N sf lt bt w L B)) 5 0
def jOk (lt bt : Nat → Int32) (t : Nat) (ftw fts : Nat → Int32) (x : Int32) (s L : Nat) : Bool := !decide (lt (5 * L + s) = -2) && jAllows t ftw fts x (bt (5 * L + s))
def jTo (w : Nat) (lt : Nat → Int32) (s L : Nat) : Int32 := nI w * 7 + lt (5 * L + s) + 1
def jWay1 (lt bt : Nat → Int32) (t : Nat) (ftw fts : Nat → Int32) (w L s : Nat) (y : Nat → Int32) : Nat → Int32 :=
  if jOk lt bt t ftw fts (nI w) s L then jPut 49 y (jTo w lt s L) (jAt 49 y (jTo w lt s L) + jAt 49 y (nI (7 * (w - 1) + L))) else y
def jWay (lt bt : Nat → Int32) (t : Nat) (ftw fts : Nat → Int32) (y0 : Nat → Int32) : Nat → Nat → Int32
  | 0 => y0
  | k + 1 => jWay1 lt bt t ftw fts (k / 35 + 1) (k / 5 % 7) (k % 5) (jWay lt bt t ftw fts y0 k)
def jWay0 (t : Nat) (ftw fts : Nat → Int32) (L B : Nat) : Nat → Int32 := upd (fun _ => 0) L (bI (jAllows t ftw fts 0 (pI B)))
def jSum (y : Nat → Int32) (w : Nat) : Nat → Int32
  | 0 => 0
  | L + 1 => jSum y w L + jAt 49 y (nI (7 * w + L))
def jBits (y : Nat → Int32) (w : Nat) : Nat → Int32
  | 0 => 0
  | L + 1 => if 0 < jAt 49 y (nI (7 * w + L)) then jBits y w L ||| (1 <<< ((if L = 0 then 6 else pI L) &&& 31)) else jBits y w L
def jE1 (lt bt : Nat → Int32) (t : Nat) (ftw fts : Nat → Int32) (w L : Nat) (y : Nat → Int32) : Nat → Int32
  | 0 => 0
  | s + 1 => if jOk lt bt t ftw fts (nI w) s L then jE1 lt bt t ftw fts w L y s + jAt 49 y (jTo w lt s L) else jE1 lt bt t ftw fts w L y s
def jEnd0 : Nat → Nat → Int32
  | 0 => fun _ => 0
  | L + 1 => jPut 49 (jEnd0 L) (nI (42 + L)) 1
/-- endings: k steps, each of a word (from 6 down) and a last one -/
def jEnds (lt bt : Nat → Int32) (t : Nat) (ftw fts : Nat → Int32) : Nat → Nat → Int32
  | 0 => jEnd0 7
  | k + 1 => jPut 49 (jEnds lt bt t ftw fts k) (nI (7 * (5 - k / 7) + k % 7)) (jE1 lt bt t ftw fts (6 - k / 7) (k % 7) (jEnds lt bt t ftw fts k) 5)
/-- what is left, and the most: k steps, each of a last one and a seat -/
def jMost (lt bt : Nat → Int32) (t : Nat) (ftw fts : Nat → Int32) (y z : Nat → Int32) (w : Nat) : Nat → (Nat → Int32) × Int32
  | 0 => (fun _ => 0, 0)
  | k + 1 =>
    if jOk lt bt t ftw fts (nI w) (k % 5) (k / 5) then
      (jPut 6 (jMost lt bt t ftw fts y z w k).1 (bt (5 * (k / 5) + k % 5) + 1) (jAt 6 (jMost lt bt t ftw fts y z w k).1 (bt (5 * (k / 5) + k % 5) + 1) + jAt 49 y (nI (7 * (w - 1) + k / 5)) * jAt 49 z (jTo w lt (k % 5) (k / 5))),
       jMax (jMost lt bt t ftw fts y z w k).2 (jAt 6 (jMost lt bt t ftw fts y z w k).1 (bt (5 * (k / 5) + k % 5) + 1) + jAt 49 y (nI (7 * (w - 1) + k / 5)) * jAt 49 z (jTo w lt (k % 5) (k / 5))))
    else jMost lt bt t ftw fts y z w k
/-- the word to look at, and how many are left there: k words looked at -/
def jLook (f : Nat → Int32) : Nat → Int32 × Int32
  | 0 => (1, f 1)
  | k + 1 => if f (k + 2) < (jLook f k).2 then (nI (k + 2), f (k + 2)) else jLook f k
theorem z_lkEnd {x : Int32} (h0 : ¬ x = 0) (h1 : ¬ x = 1) : Op.lookupswitch.offset (#[(0, 28), (1, 30)] : Array (Int × Int)).toList 32 x.toInt = 32 := by
  show Op.lookupswitch.offset [(0, 28), (1, 30)] 32 x.toInt = 32
  have a1 : ¬ (0 : Int) = x.toInt := fun h => h0 (z_toInt h.symm 0 rfl)
  have a2 : ¬ (1 : Int) = x.toInt := fun h => h1 (z_toInt h.symm 1 rfl)
  rw [Op.lookupswitch.offset_cons, if_neg a1, Op.lookupswitch.offset_cons, if_neg a2]
  rfl
theorem z_mod2 : ∀ d : Nat, d < 8 → nI d - nI d / 2 * 2 = nI (d % 2) := by decide
theorem z_dec {d : Nat} (h : 0 < d) : nI d + -1 = nI (d - 1) := by
  have e : d = (d - 1) + 1 := by omega
  rw [e, ← Int32.sub_eq_add_neg, nI_pred]
  rfl
theorem jBy_congr {N : Nat} {sf lt bt w w' : Nat → Int32} {sd : Int32} (h : ∀ p, p < 42 → w p = w' p) (L : Nat) : ∀ k, jBy N sf lt bt w sd L k = jBy N sf lt bt w' sd L k
  | 0 => rfl
  | k + 1 => by
    have e : jWB lt bt w k L = jWB lt bt w' k L := by
      unfold jWB jAt
      split
      · rename_i hq
        refine h _ ?_
        have h2 := hq.2
        rw [Int32.lt_iff_toInt_lt, nI_toInt (by decide)] at h2
        rw [← Int32.toNat_toInt]
        omega
      · rfl
    rw [jBy, jBy, jBy_congr h L k, e]
theorem jWBr_congr {N : Nat} {sf lt bt w w' : Nat → Int32} {sd : Int32} (h : ∀ p, p < 42 → w p = w' p) : ∀ p, p < 42 → jWBr N sf lt bt sd w p = jWBr N sf lt bt sd w' p := by
  intro p hp
  unfold jWBr
  rw [h p hp, jBy_congr h]
theorem rp_eq0 (L : Nat) : 0 * 7 + pI L + 1 = nI L := by
  rw [Int32.add_assoc, pI_s, show (0 : Int32) * 7 = 0 from rfl, Int32.zero_add]
theorem rp_eq1 {w : Nat} (h : 1 ≤ w) (L : Nat) : (nI w - 1) * 7 + pI L + 1 = nI (7 * (w - 1) + L) := by
  rw [show nI w - 1 = nI (w - 1) from z_sub (b := 1) h, rp_eq]
theorem pI_m1 : ∀ L : Nat, L < 8 → (pI L = -1 ↔ L = 0) := by decide
-- the face
def jLetOk (n : Nat) (c : Int32) : Bool := decide (1 ≤ c) && decide (c ≤ 126) && decide (n < 18)
def jSeats (n : Nat) : Nat := min (n / 3) 5
theorem jSeats_eq : ∀ n : Nat, n ≤ 18 → jMin (nI n / 3) 5 = nI (jSeats n) := by decide
theorem jSeats_le (n : Nat) : jSeats n ≤ 5 := by unfold jSeats; omega
theorem jSeats_3 {n i : Nat} (h : i < jSeats n) : 3 * i + 2 < n := by unfold jSeats at h; omega
theorem nI_3 (i : Nat) : 3 * nI i = nI (3 * i) := nI_mul 3 i
theorem nI_31 (i : Nat) : 3 * nI i + 1 = nI (3 * i + 1) := by rw [nI_3, nI_1]
def jSitK (n : Nat) (f kf : Nat → Int32) : Nat → Int32 := fun j => if j < jSeats n then jKindOf (f (3 * j)) else kf j
def jSitS (n : Nat) (f sf : Nat → Int32) : Nat → Int32 := fun j => if j < jSeats n then f (3 * j + 1) - 48 else sf j
theorem z_ite_step {g K kf : Nat → Int32} {i n : Nat} (h : ∀ j, j < n → g j = if j < i then K j else kf j) : ∀ j, j < n → upd g i (K i) j = if j < i + 1 then K j else kf j := by
  intro j hj
  unfold upd
  by_cases e : j = i
  · subst e; rw [if_pos rfl, if_pos (by omega)]
  · rw [if_neg e, h j hj]
    by_cases q : j < i
    · rw [if_pos q, if_pos (by omega)]
    · rw [if_neg q, if_neg (by omega)]
theorem jWhole_ge {n : Nat} {f : Nat → Int32} (h : jWhole n f = true) : 2 ≤ n := by
  unfold jWhole at h
  simp only [Bool.and_eq_true, decide_eq_true_eq] at h
  exact h.1.1
def jSeat (N : Nat) (kf sf : Nat → Int32) (ou la be : Int32) (fw : Nat → Int32) (x wh : Int32) : Int32 :=
  if jHas N x then (if wh = 0 then jKind N kf x else if wh = 1 then jKind N sf x else if wh = 2 then bI (jIsIn x ou) else if wh = 3 then bI (jCounts N kf x la ou) else if wh = 4 then jAt 5 fw x else if wh = 5 then jFew (jAim (jLT N kf ou) (jBT N kf ou) x 49) la be x else -102) else -101
def jAs (N : Nat) (kf : Nat → Int32) (x k : Int32) : Int32 := if jHas N x then (if k < 0 ∨ 5 ≤ k then -102 else if jIsOf N kf x k then x else -1) else -101
def jGet (N : Nat) (kf : Nat → Int32) (ou : Int32) (L : Nat) (be x wh : Int32) : Int32 :=
  if jHas N x then (if wh = 0 then jFew (jAim (jLT N kf ou) (jBT N kf ou) x 49) (pI L) be x else if wh = 1 then jFind (fun s => decide (jSB (jLT N kf ou) (jBT N kf ou) (jAim (jLT N kf ou) (jBT N kf ou) x 49) s L x = jFew (jAim (jLT N kf ou) (jBT N kf ou) x 49) (pI L) be x)) 5 0 else -102) else -101
def jPlay (N : Nat) (kf sf : Nat → Int32) (ou : Int32) (L B : Nat) (b wh : Int32) : Int32 :=
  if b < 1 ∨ 6 < b ∨ (¬ wh = 0 ∧ ¬ wh = 1) then -102 else if ¬ 0 < N then -103
  else if wh = 0 then jBest N sf (jLT N kf ou) (jBT N kf ou) (jWeigh N sf (jLT N kf ou) (jBT N kf ou) (b.toNatClampNeg - 1) 1) L B + 1
  else jOpen N sf (jLT N kf ou) (jBT N kf ou) (jWeigh N sf (jLT N kf ou) (jBT N kf ou) (b.toNatClampNeg - 1) 1) L B
def jHearOk (N t : Nat) (x y : Int32) : Bool := decide (0 ≤ x) && decide (x ≤ 8) && (decide (y = -1) || jHas N y) && decide (t < 8)
def jHearNo (N : Nat) (x y : Int32) : Int32 := if x < 0 ∨ 8 < x then -102 else if ¬ y = -1 ∧ jHas N y = false then -101 else -104
def jRows (N : Nat) (kf : Nat → Int32) (ou : Int32) (L B t : Nat) (ftw fts : Nat → Int32) (b wh : Int32) : Int32 :=
  if b < 0 ∨ 6 < b ∨ (¬ wh = 0 ∧ ¬ wh = 1) then -102 else if ¬ 0 < N then -103
  else if wh = 0 then jSum (jWay (jLT N kf ou) (jBT N kf ou) t ftw fts (jWay0 t ftw fts L B) (35 * b.toNatClampNeg)) b.toNatClampNeg 7
  else jBits (jWay (jLT N kf ou) (jBT N kf ou) t ftw fts (jWay0 t ftw fts L B) (35 * b.toNatClampNeg)) b.toNatClampNeg 7
def jWhen (N : Nat) (kf : Nat → Int32) (ou : Int32) (L B t : Nat) (ftw fts : Nat → Int32) : Int32 :=
  if ¬ 0 < N then -103
  else if jSum (jWay (jLT N kf ou) (jBT N kf ou) t ftw fts (jWay0 t ftw fts L B) 210) 6 7 = 0 then -1
  else (jLook (fun w => (jMost (jLT N kf ou) (jBT N kf ou) t ftw fts (jWay (jLT N kf ou) (jBT N kf ou) t ftw fts (jWay0 t ftw fts L B) 210) (jEnds (jLT N kf ou) (jBT N kf ou) t ftw fts 35) w 35).2) 5).1
theorem z_rng {lo hi : Nat} {b : Int32} (hlo : lo < 2147483648) (hhi : hi < 2147483648) (h1 : nI lo ≤ b) (h2 : b ≤ nI hi) : ∃ k : Nat, lo ≤ k ∧ k ≤ hi ∧ b = nI k := by
  rw [Int32.le_iff_toInt_le, nI_toInt (by omega)] at h1 h2
  refine ⟨b.toInt.toNat, by omega, by omega, ?_⟩
  refine Int32.toInt_inj.mp ?_
  rw [nI_toInt (by omega)]
  omega
theorem z_rng1 {b : Int32} (h1 : 1 ≤ b) (h2 : b ≤ 6) : ∃ k : Nat, 1 ≤ k ∧ k ≤ 6 ∧ b = nI k := z_rng (lo := 1) (hi := 6) (by decide) (by decide) h1 h2
theorem z_rng0 {b : Int32} (h1 : 0 ≤ b) (h2 : b ≤ 6) : ∃ k : Nat, 0 ≤ k ∧ k ≤ 6 ∧ b = nI k := z_rng (lo := 0) (hi := 6) (by decide) (by decide) h1 h2
theorem z_rng60 {b : Int32} (h1 : 1 ≤ b) (h2 : b ≤ 60) : ∃ k : Nat, 1 ≤ k ∧ k ≤ 60 ∧ b = nI k := z_rng (lo := 1) (hi := 60) (by decide) (by decide) h1 h2
end
section
abbrev rm_c_X4_at : Room := { frames := 0, cells := 0, slots := 0, locals := 0 }
set_option maxHeartbeats 400000 in
set_option maxRecDepth 20000 in
theorem c_X4_at {l : Launch} {D : va_G} {cA : ClassId} {n : Nat} {q : Nat} {f : Nat → Int32} {x : Int32} (hn : n < 2147483648) : zMi l yX4_at wsX4_at rm_c_X4_at D cA [(q, .inl (cA, n, .inl f))] [.ref q, .int x] (fun (r : Int32) (_ : Unit) => r = jAt n f x) (fun (_ : Unit) => [(q, .inl (cA, n, .inl f))]) := by
  refine z_enteri (cc := cX4_at) (maxL := 2) (ty := .int) (by decide) rfl (Nat.le_of_ble_eq_true rfl) (fun p e s m args below meth c ls A H0 H locs Q hi_ hA hK hP hD hS hl hret => ?_)
  obtain ⟨hx, hb, hr, hml, hown, hts, hlocks, hN⟩ := hi_
  have hl : lv_has ls 2 [(0, .ref q), (1, .int x)] := hl
  refine lv_aload_n hx hb dX4_at_0 rfl (lv_at hl 0 rfl) ?_
  refine lv_ifnull hx hb dX4_at_1 ?_
  refine lv_iload_n hx hb dX4_at_4 rfl (lv_at hl 1 rfl) ?_
  refine lv_if_lt (tgt := 20) hx hb dX4_at_5 (by decide) (fun c5_1 => ?_) (fun c5_1 => ?_)
  · skip
    refine lv_iconst (v := 0) hx hb dX4_at_20 (by decide) ?_
    -- path 1
    exact hret (0) () _ _ _ _ dX4_at_21 (rfl) (by clear hret hl hS hD hP hK hA hN hts hx hb hr hml hown hlocks ; grind [jAt, bI]) hP hD hS
  · skip
    refine lv_iload_n hx hb dX4_at_8 rfl (lv_at hl 1 rfl) ?_
    refine lv_aload_n hx hb dX4_at_9 rfl (lv_at hl 0 rfl) ?_
    refine va_alen (v := nI n) hx hb hK hP 0 0 rfl rfl rfl dX4_at_10 ?_
    refine lv_icmp_ge (tgt := 20) hx hb dX4_at_11 (by decide) (fun c11_2 => ?_) (fun c11_2 => ?_)
    · skip
      refine lv_iconst (v := 0) hx hb dX4_at_20 (by decide) ?_
      -- path 2
      exact hret (0) () _ _ _ _ dX4_at_21 (rfl) (by clear hret hl hS hD hP hK hA hN hts hx hb hr hml hown hlocks ; grind [jAt, bI]) hP hD hS
    · skip
      refine lv_aload_n hx hb dX4_at_14 rfl (lv_at hl 0 rfl) ?_
      refine lv_iload_n hx hb dX4_at_15 rfl (lv_at hl 1 rfl) ?_
      refine va_iald hx hb hK hP 0 0 rfl rfl (z_in hn (Int32.not_lt.mp (by assumption)) (Int32.not_le.mp (by assumption))) dX4_at_16 ?_
      refine lv_goto (tgt := 21) hx hb dX4_at_17 (by decide) ?_
      -- path 3
      exact hret (f (Int32.toNatClampNeg x)) () _ _ _ _ dX4_at_21 (rfl) (by clear hret hl hS hD hP hK hA hN hts hx hb hr hml hown hlocks ; grind [jAt, bI]) hP hD hS
abbrev rm_c_X4_put : Room := { frames := 0, cells := 0, slots := 0, locals := 0 }
set_option maxHeartbeats 400000 in
set_option maxRecDepth 20000 in
theorem c_X4_put {l : Launch} {D : va_G} {cA : ClassId} {n : Nat} {q : Nat} {f : Nat → Int32} {x : Int32} {v : Int32} (hn : n < 2147483648) : zMv l yX4_put wsX4_put rm_c_X4_put D cA [(q, .inl (cA, n, .inl f))] [.ref q, .int x, .int v] (fun (_ : Unit) => True) (fun (_ : Unit) => [(q, .inl (cA, n, .inl (jPut n f x v)))]) := by
  refine z_enterv (cc := cX4_put) (maxL := 3) (by decide) rfl (Nat.le_of_ble_eq_true rfl) (fun p e s m args below meth c ls A H0 H locs Q hi_ hA hK hP hD hS hl hret => ?_)
  obtain ⟨hx, hb, hr, hml, hown, hts, hlocks, hN⟩ := hi_
  have hl : lv_has ls 3 [(0, .ref q), (1, .int x), (2, .int v)] := hl
  refine lv_aload_n hx hb dX4_put_0 rfl (lv_at hl 0 rfl) ?_
  refine lv_ifnull hx hb dX4_put_1 ?_
  refine lv_iload_n hx hb dX4_put_4 rfl (lv_at hl 1 rfl) ?_
  refine lv_if_lt (tgt := 18) hx hb dX4_put_5 (by decide) (fun c5_1 => ?_) (fun c5_1 => ?_)
  · skip
    -- path 1
    have hP : va_P D vwCl [(q, .inl (cA, n, .inl (jPut n f x v)))] H := z_arrP hP 0 (g := (jPut n f x v)) rfl (by clear hret hl hS hD hP hK hA hN hts hx hb hr hml hown hlocks ; intro j _; unfold jPut; split <;> grind [upd]) rfl
    have hD : va_D A [(q, .inl (cA, n, .inl (jPut n f x v)))] := z_arrD hD 0 rfl rfl
    exact hret () _ _ _ _ dX4_put_18 (by trivial) hP hD hS
  · skip
    refine lv_iload_n hx hb dX4_put_8 rfl (lv_at hl 1 rfl) ?_
    refine lv_aload_n hx hb dX4_put_9 rfl (lv_at hl 0 rfl) ?_
    refine va_alen (v := nI n) hx hb hK hP 0 0 rfl rfl rfl dX4_put_10 ?_
    refine lv_icmp_ge (tgt := 18) hx hb dX4_put_11 (by decide) (fun c11_2 => ?_) (fun c11_2 => ?_)
    · skip
      -- path 2
      have hP : va_P D vwCl [(q, .inl (cA, n, .inl (jPut n f x v)))] H := z_arrP hP 0 (g := (jPut n f x v)) rfl (by clear hret hl hS hD hP hK hA hN hts hx hb hr hml hown hlocks ; intro j _; unfold jPut; split <;> grind [upd]) rfl
      have hD : va_D A [(q, .inl (cA, n, .inl (jPut n f x v)))] := z_arrD hD 0 rfl rfl
      exact hret () _ _ _ _ dX4_put_18 (by trivial) hP hD hS
    · skip
      refine lv_aload_n hx hb dX4_put_14 rfl (lv_at hl 0 rfl) ?_
      refine lv_iload_n hx hb dX4_put_15 rfl (lv_at hl 1 rfl) ?_
      refine lv_iload_n hx hb dX4_put_16 rfl (lv_at hl 2 rfl) ?_
      refine va_iast hx hb hK hP hD hS 0 0 rfl rfl (z_in hn (Int32.not_lt.mp (by assumption)) (Int32.not_le.mp (by assumption))) dX4_put_17 (fun H locs hP hD hS => ?_)
      have hP : va_P D vwCl [(q, .inl (cA, n, .inl (upd f (Int32.toNatClampNeg x) v)))] H := hP
      have hD : va_D A [(q, .inl (cA, n, .inl (upd f (Int32.toNatClampNeg x) v)))] := hD
      -- path 3
      have hP : va_P D vwCl [(q, .inl (cA, n, .inl (jPut n f x v)))] H := z_arrP hP 0 (g := (jPut n f x v)) rfl (by clear hret hl hS hD hP hK hA hN hts hx hb hr hml hown hlocks ; intro j _; unfold jPut; split <;> grind [upd]) rfl
      have hD : va_D A [(q, .inl (cA, n, .inl (jPut n f x v)))] := z_arrD hD 0 rfl rfl
      exact hret () _ _ _ _ dX4_put_18 (by trivial) hP hD hS
abbrev rm_c_X4_isIn : Room := { frames := 0, cells := 0, slots := 0, locals := 0 }
set_option maxHeartbeats 400000 in
set_option maxRecDepth 20000 in
theorem c_X4_isIn {l : Launch} {D : va_G} {cA : ClassId} {x : Int32} {o : Int32} : zMi l yX4_isIn wsX4_isIn rm_c_X4_isIn D cA [] [.int x, .int o] (fun (r : Int32) (_ : Unit) => r = bI (jIsIn x o)) (fun (_ : Unit) => []) := by
  refine z_enteri (cc := cX4_isIn) (maxL := 2) (ty := .boolean) (by decide) rfl (Nat.le_of_ble_eq_true rfl) (fun p e s m args below meth c ls A H0 H locs Q hi_ hA hK hP hD hS hl hret => ?_)
  obtain ⟨hx, hb, hr, hml, hown, hts, hlocks, hN⟩ := hi_
  have hl : lv_has ls 2 [(0, .int x), (1, .int o)] := hl
  refine lv_iload_n hx hb dX4_isIn_0 rfl (lv_at hl 0 rfl) ?_
  refine lv_if_lt (tgt := 22) hx hb dX4_isIn_1 (by decide) (fun c1_1 => ?_) (fun c1_1 => ?_)
  · skip
    refine lv_iconst (v := 0) hx hb dX4_isIn_22 (by decide) ?_
    -- path 1
    exact hret (0) () _ _ _ _ dX4_isIn_23 (rfl) (by clear hret hl hS hD hP hK hA hN hts hx hb hr hml hown hlocks ; grind [jIsIn, bI]) hP hD hS
  · skip
    refine lv_iload_n hx hb dX4_isIn_4 rfl (lv_at hl 0 rfl) ?_
    refine lv_iconst (v := 5) hx hb dX4_isIn_5 (by decide) ?_
    refine lv_icmp_ge (tgt := 22) hx hb dX4_isIn_6 (by decide) (fun c6_2 => ?_) (fun c6_2 => ?_)
    · skip
      refine lv_iconst (v := 0) hx hb dX4_isIn_22 (by decide) ?_
      -- path 2
      exact hret (0) () _ _ _ _ dX4_isIn_23 (rfl) (by clear hret hl hS hD hP hK hA hN hts hx hb hr hml hown hlocks ; grind [jIsIn, bI]) hP hD hS
    · skip
      refine lv_iload_n hx hb dX4_isIn_9 rfl (lv_at hl 1 rfl) ?_
      refine lv_iload_n hx hb dX4_isIn_10 rfl (lv_at hl 0 rfl) ?_
      refine lv_ishr hx hb dX4_isIn_11 ?_
      refine lv_iconst (v := 1) hx hb dX4_isIn_12 (by decide) ?_
      refine lv_iand hx hb dX4_isIn_13 ?_
      refine lv_iconst (v := 1) hx hb dX4_isIn_14 (by decide) ?_
      refine lv_icmp_ne (tgt := 22) hx hb dX4_isIn_15 (by decide) (fun c15_3 => ?_) (fun c15_3 => ?_)
      · skip
        refine lv_iconst (v := 0) hx hb dX4_isIn_22 (by decide) ?_
        -- path 3
        exact hret (0) () _ _ _ _ dX4_isIn_23 (rfl) (by clear hret hl hS hD hP hK hA hN hts hx hb hr hml hown hlocks ; grind [jIsIn, bI]) hP hD hS
      · skip
        refine lv_iconst (v := 1) hx hb dX4_isIn_18 (by decide) ?_
        refine lv_goto (tgt := 23) hx hb dX4_isIn_19 (by decide) ?_
        -- path 4
        exact hret (1) () _ _ _ _ dX4_isIn_23 (rfl) (by clear hret hl hS hD hP hK hA hN hts hx hb hr hml hown hlocks ; grind [jIsIn, bI]) hP hD hS
abbrev rm_c_X4_nextSeed : Room := { frames := 0, cells := 0, slots := 0, locals := 0 }
set_option maxHeartbeats 400000 in
set_option maxRecDepth 20000 in
theorem c_X4_nextSeed {l : Launch} {D : va_G} {cA : ClassId} {x : Int64} : zMl l yX4_nextSeed wsX4_nextSeed rm_c_X4_nextSeed D cA [] [.long x] (fun (r : Int64) (_ : Unit) => r = jNext x) (fun (_ : Unit) => []) := by
  refine z_enterl (cc := cX4_nextSeed) (maxL := 2) (by decide) rfl (Nat.le_of_ble_eq_true rfl) (fun p e s m args below meth c ls A H0 H locs Q hi_ hA hK hP hD hS hl hret => ?_)
  obtain ⟨hx, hb, hr, hml, hown, hts, hlocks, hN⟩ := hi_
  have hl : lv_has ls 2 [(0, .long x)] := hl
  refine lv_ldc2 (v := 1103515245) hx hb hown (hts (.constantLong RX4 226 (1103515245)) (by decide +kernel)) dX4_nextSeed_0 ?_
  refine lv_lload_n hx hb dX4_nextSeed_3 rfl (lv_at hl 0 rfl) ?_
  refine lv_lmul hx hb dX4_nextSeed_4 ?_
  refine lv_ldc2 (v := 12345) hx hb hown (hts (.constantLong RX4 228 (12345)) (by decide +kernel)) dX4_nextSeed_5 ?_
  refine lv_ladd hx hb dX4_nextSeed_8 ?_
  refine lv_ldc2 (v := 2147483648) hx hb hown (hts (.constantLong RX4 230 (2147483648)) (by decide +kernel)) dX4_nextSeed_9 ?_
  refine lv_lrem hx hb dX4_nextSeed_12 (by decide) ?_
  -- path 1
  exact hret (((1103515245 * x) + 12345) - ((1103515245 * x) + 12345) / 2147483648 * 2147483648) () _ _ _ _ dX4_nextSeed_13 (by rfl) hP hD hS
abbrev rm_c_X4_fill : Room := { frames := 0, cells := 0, slots := 0, locals := 0 }
set_option maxHeartbeats 400000 in
set_option maxRecDepth 20000 in
theorem c_X4_fill {l : Launch} {D : va_G} {cA : ClassId} {n : Nat} {q : Nat} {f : Nat → Int32} {x : Int32} (hn : n < 2147483648) : zMv l yX4_fill wsX4_fill rm_c_X4_fill D cA [(q, .inl (cA, n, .inl f))] [.ref q, .int x] (fun (_ : Unit) => True) (fun (_ : Unit) => [(q, .inl (cA, n, .inl (fun _ => x)))]) := by
  refine z_enterv (cc := cX4_fill) (maxL := 3) (by decide) rfl (Nat.le_of_ble_eq_true rfl) (fun p e s m args below meth c ls A H0 H locs Q hi_ hA hK hP hD hS hl hret => ?_)
  obtain ⟨hx, hb, hr, hml, hown, hts, hlocks, hN⟩ := hi_
  have hl : lv_has ls 3 [(0, .ref q), (1, .int x)] := hl
  refine lv_aload_n hx hb dX4_fill_0 rfl (lv_at hl 0 rfl) ?_
  refine lv_ifnull hx hb dX4_fill_1 ?_
  refine lv_iconst (v := nI 0) hx hb dX4_fill_4 (by decide) ?_
  refine lv_istore_n (lv' := [(2, .int (nI 0)), (0, .ref q), (1, .int x)]) hx hb dX4_fill_5 rfl hl (by decide) rfl (fun ls hl => ?_)
  have L6 : ∀ (n_ : Nat) (i : Nat) (g : Nat → Int32) (hm_ : n + 1 ≤ i + n_) (hi : i ≤ n) (hg : ∀ j, j < i → g j = x) (H : Heap) (locs : List Loc) (ls : Array Slot), va_P D vwCl [(q, .inl (cA, n, .inl g))] H → va_D A [(q, .inl (cA, n, .inl g))] → va_S A H0 H locs → lv_has ls 3 [(0, .ref q), (1, .int x), (2, .int (nI i))] → W p l e rm_c_X4_fill s m args below meth c H locs 0 0 Q (F0 m 6 ls []) := by
    intro n_
    induction n_ with
    | zero =>
      intro i g hm_ hi hg
      exact absurd hm_ (by omega)
    | succ n_ ih_ =>
      intro i g hm_ hi hg H locs ls hP hD hS hl
      have ih1 := ih_
      clear ih_
      refine lv_iload_n hx hb dX4_fill_6 rfl (lv_at hl 2 rfl) ?_
      refine lv_aload_n hx hb dX4_fill_7 rfl (lv_at hl 0 rfl) ?_
      refine va_alen (v := nI n) hx hb hK hP 0 0 rfl rfl rfl dX4_fill_8 ?_
      refine lv_icmp_ge (tgt := 22) hx hb dX4_fill_9 (by decide) (fun c9_2 => ?_) (fun c9_2 => ?_)
      · skip
        have ht_ := (nI_leI (by omega) (by omega)).mp c9_2
        -- path 1
        have hP : va_P D vwCl [(q, .inl (cA, n, .inl (fun _ => x)))] H := z_arrP hP 0 (g := (fun _ => x)) rfl (by clear hret hl hS hD hP hK hA hN hts hx hb hr hml hown hlocks  ih1; intro j hj; exact hg j (by omega)) rfl
        have hD : va_D A [(q, .inl (cA, n, .inl (fun _ => x)))] := z_arrD hD 0 rfl rfl
        exact hret () _ _ _ _ dX4_fill_22 (by trivial) hP hD hS
      · skip
        have hlt : i < n := Nat.lt_of_not_le (fun q_ => c9_2 ((nI_leI (by omega) (by omega)).mpr q_))
        refine lv_aload_n hx hb dX4_fill_12 rfl (lv_at hl 0 rfl) ?_
        refine lv_iload_n hx hb dX4_fill_13 rfl (lv_at hl 2 rfl) ?_
        refine lv_iload_n hx hb dX4_fill_14 rfl (lv_at hl 1 rfl) ?_
        refine va_iast hx hb hK hP hD hS 0 0 rfl rfl (z_inN (by assumption) hn) dX4_fill_15 (fun H locs hP hD hS => ?_)
        have hP : va_P D vwCl [(q, .inl (cA, n, .inl (upd g (Int32.toNatClampNeg (nI i)) x)))] H := hP
        have hD : va_D A [(q, .inl (cA, n, .inl (upd g (Int32.toNatClampNeg (nI i)) x)))] := hD
        refine lv_iinc (v := nI (i + 1)) (lv' := [(2, .int (nI (i + 1))), (0, .ref q), (1, .int x)]) hx hb dX4_fill_16 hl (k := 2) rfl (nI_1 i) (by decide) rfl (fun ls hl => ?_)
        refine lv_goto (tgt := 6) hx hb dX4_fill_19 (by decide) ?_
        exact ih1 (i + 1) (upd g (Int32.toNatClampNeg (nI i)) x) (by omega) (by first | assumption | omega) (by clear hret hl hS hD hP hK hA hN hts hx hb hr hml hown hlocks  ih1; intro j hj; rw [z_nat (by omega)]; unfold upd; split <;> first | rfl | exact hg j (by omega)) _ _ _ hP hD hS (lv_sub hl [1, 2, 0] rfl)
  exact L6 (n + 1) 0 f (by omega) (by first | assumption | omega) (by clear hret hl hS hD hP hK hA hN hts hx hb hr hml hown hlocks  L6; intro j hj; omega) _ _ _ hP hD hS (lv_sub hl [1, 2, 0] rfl)
abbrev rm_c_X4_copy : Room := { frames := 1, cells := 0, slots := 0, locals := 21 }
set_option maxHeartbeats 400000 in
set_option maxRecDepth 20000 in
theorem c_X4_copy {l : Launch} {D : va_G} {cA : ClassId} {n : Nat} {q : Nat} {q2 : Nat} {f : Nat → Int32} {f2 : Nat → Int32} (hn : n < 2147483648) : zMv l yX4_copy wsX4_copy rm_c_X4_copy D cA [(q, .inl (cA, n, .inl f)), (q2, .inl (cA, n, .inl f2))] [.ref q, .ref q2] (fun (_ : Unit) => True) (fun (_ : Unit) => [(q, .inl (cA, n, .inl f)), (q2, .inl (cA, n, .inl f))]) := by
  refine z_enterv (cc := cX4_copy) (maxL := 3) (by decide) rfl (Nat.le_of_ble_eq_true rfl) (fun p e s m args below meth c ls A H0 H locs Q hi_ hA hK hP hD hS hl hret => ?_)
  obtain ⟨hx, hb, hr, hml, hown, hts, hlocks, hN⟩ := hi_
  have hl : lv_has ls 3 [(0, .ref q), (1, .ref q2)] := hl
  refine lv_aload_n hx hb dX4_copy_0 rfl (lv_at hl 1 rfl) ?_
  refine lv_ifnull hx hb dX4_copy_1 ?_
  refine lv_iconst (v := nI 0) hx hb dX4_copy_4 (by decide) ?_
  refine lv_istore_n (lv' := [(2, .int (nI 0)), (0, .ref q), (1, .ref q2)]) hx hb dX4_copy_5 rfl hl (by decide) rfl (fun ls hl => ?_)
  have L6 : ∀ (n_ : Nat) (i : Nat) (g : Nat → Int32) (hm_ : n + 1 ≤ i + n_) (hi : i ≤ n) (hg : ∀ j, j < i → g j = f j) (H : Heap) (locs : List Loc) (ls : Array Slot), va_P D vwCl [(q, .inl (cA, n, .inl f)), (q2, .inl (cA, n, .inl g))] H → va_D A [(q, .inl (cA, n, .inl f)), (q2, .inl (cA, n, .inl g))] → va_S A H0 H locs → lv_has ls 3 [(0, .ref q), (1, .ref q2), (2, .int (nI i))] → W p l e rm_c_X4_copy s m args below meth c H locs 0 0 Q (F0 m 6 ls []) := by
    intro n_
    induction n_ with
    | zero =>
      intro i g hm_ hi hg
      exact absurd hm_ (by omega)
    | succ n_ ih_ =>
      intro i g hm_ hi hg H locs ls hP hD hS hl
      have ih1 := ih_
      clear ih_
      refine lv_iload_n hx hb dX4_copy_6 rfl (lv_at hl 2 rfl) ?_
      refine lv_aload_n hx hb dX4_copy_7 rfl (lv_at hl 1 rfl) ?_
      refine va_alen (v := nI n) hx hb hK hP 1 0 rfl rfl rfl dX4_copy_8 ?_
      refine lv_icmp_ge (tgt := 26) hx hb dX4_copy_9 (by decide) (fun c9_2 => ?_) (fun c9_2 => ?_)
      · skip
        have ht_ := (nI_leI (by omega) (by omega)).mp c9_2
        -- path 1
        have hP : va_P D vwCl [(q, .inl (cA, n, .inl f)), (q2, .inl (cA, n, .inl f))] H := z_arrP hP 1 (g := f) rfl (by clear hret hl hS hD hP hK hA hN hts hx hb hr hml hown hlocks  ih1; intro j hj; exact hg j (by omega)) rfl
        have hD : va_D A [(q, .inl (cA, n, .inl f)), (q2, .inl (cA, n, .inl f))] := z_arrD hD 1 rfl rfl
        exact hret () _ _ _ _ dX4_copy_26 (by trivial) hP hD hS
      · skip
        have hlt : i < n := Nat.lt_of_not_le (fun q_ => c9_2 ((nI_leI (by omega) (by omega)).mpr q_))
        refine lv_aload_n hx hb dX4_copy_12 rfl (lv_at hl 1 rfl) ?_
        refine lv_iload_n hx hb dX4_copy_13 rfl (lv_at hl 2 rfl) ?_
        refine lv_aload_n hx hb dX4_copy_14 rfl (lv_at hl 0 rfl) ?_
        refine lv_iload_n hx hb dX4_copy_15 rfl (lv_at hl 2 rfl) ?_
        refine z_bri (z_runS (As := [.ref q, .int (nI i)]) (rest := [.int (nI i), .ref q2]) ⟨hx, hb, hml, hown, hts⟩ (c_X4_at (n := n) (q := q) (f := f) (x := nI i) (by first | assumption | omega) _) (va_cwS 2 hts gX4_copy_X4_at rfl rfl rfl (by decide +kernel) ⟨Nat.le_of_ble_eq_true rfl, Nat.le_of_ble_eq_true rfl⟩) hK hP hD hN [0] rfl rfl rfl hl.1 rfl (Nat.le_of_ble_eq_true rfl) dX4_copy_16 ⟨Nat.zero_le _, Nat.zero_le _⟩) hP hD hS hA [0] rfl (fun r4 u5 H locs hw3 hP hS => ?_)
        obtain rfl : r4 = jAt n f (nI i) := hw3
        refine z_top (y := f i) (jAt_nI (by omega) hn) ?_
        refine va_iast hx hb hK hP hD hS 1 0 rfl rfl (z_inN (by assumption) hn) dX4_copy_19 (fun H locs hP hD hS => ?_)
        have hP : va_P D vwCl [(q, .inl (cA, n, .inl f)), (q2, .inl (cA, n, .inl (upd g (Int32.toNatClampNeg (nI i)) (f i))))] H := hP
        have hD : va_D A [(q, .inl (cA, n, .inl f)), (q2, .inl (cA, n, .inl (upd g (Int32.toNatClampNeg (nI i)) (f i))))] := hD
        refine lv_iinc (v := nI (i + 1)) (lv' := [(2, .int (nI (i + 1))), (0, .ref q), (1, .ref q2)]) hx hb dX4_copy_20 hl (k := 2) rfl (nI_1 i) (by decide) rfl (fun ls hl => ?_)
        refine lv_goto (tgt := 6) hx hb dX4_copy_23 (by decide) ?_
        exact ih1 (i + 1) (upd g (Int32.toNatClampNeg (nI i)) (f i)) (by omega) (by first | assumption | omega) (by clear hret hl hS hD hP hK hA hN hts hx hb hr hml hown hlocks  ih1; intro j hj; rw [z_nat (by omega)]; unfold upd; split <;> first | (rename_i e_; rw [e_]) | exact hg j (by omega)) _ _ _ hP hD hS (lv_sub hl [1, 2, 0] rfl)
  exact L6 (n + 1) 0 f2 (by omega) (by first | assumption | omega) (by clear hret hl hS hD hP hK hA hN hts hx hb hr hml hown hlocks  L6; intro j hj; omega) _ _ _ hP hD hS (lv_sub hl [1, 2, 0] rfl)
abbrev rm_c_X2_append : Room := { frames := 1, cells := 0, slots := 0, locals := 22 }
set_option maxHeartbeats 400000 in
set_option maxRecDepth 20000 in
theorem c_X2_append {l : Launch} {D : va_G} {cA : ClassId} {h0 : Nat} {q : Nat} {n : Nat} {f : Nat → Int32} {x : Int32} (hn : n < 18) : zMv l yX2_append wsX2_append rm_c_X2_append D cA [(h0, .inr (2, [.ref q, .int (nI n)])), (q, .inl (cA, 18, .inl f))] [.ref h0, .int x] (fun (_ : Unit) => True) (fun (_ : Unit) => [(h0, .inr (2, [.ref q, .int (nI (n + 1))])), (q, .inl (cA, 18, .inl (upd f n x)))]) := by
  refine z_enterv (cc := cX2_append) (maxL := 2) (by decide) rfl (Nat.le_of_ble_eq_true rfl) (fun p e s m args below meth c ls A H0 H locs Q hi_ hA hK hP hD hS hl hret => ?_)
  obtain ⟨hx, hb, hr, hml, hown, hts, hlocks, hN⟩ := hi_
  have hl : lv_has ls 2 [(0, .ref h0), (1, .int x)] := hl
  have hiX2 : ∀ w ∈ wsX20, w ∈ wsX2_append := by decide +kernel
  refine lv_aload_n hx hb dX2_append_0 rfl (lv_at hl 0 rfl) ?_
  refine va_get (D := D) (ci := 2) (v := .int (nI n)) (C := RX2) (T := TX2) (N := 2) hx hb hts hiX2 hown hK hP 0 rfl rfl 1 (by decide) (hts (.fieldLink RX2 15 "HeardSecond$Page" "length" "I") (by decide +kernel)) (fun _ h9 => h9) rfl dX2_append_1 ?_
  refine lv_bipush (v := 18) hx hb dX2_append_4 (by decide) ?_
  refine lv_icmp_ge (tgt := 31) hx hb dX2_append_6 (by decide) (fun c6_1 => ?_) (fun c6_1 => ?_)
  · skip
    exact absurd ((nI_leI (a := 18) (b := n) (by omega) (by omega)).mp c6_1) (by omega)
  · skip
    refine lv_aload_n hx hb dX2_append_9 rfl (lv_at hl 0 rfl) ?_
    refine va_get (D := D) (ci := 2) (v := .ref q) (C := RX2) (T := TX2) (N := 2) hx hb hts hiX2 hown hK hP 0 rfl rfl 0 (by decide) (hts (.fieldLink RX2 9 "HeardSecond$Page" "codes" "[I") (by decide +kernel)) (fun _ h9 => h9) rfl dX2_append_10 ?_
    refine lv_aload_n hx hb dX2_append_13 rfl (lv_at hl 0 rfl) ?_
    refine va_get (D := D) (ci := 2) (v := .int (nI n)) (C := RX2) (T := TX2) (N := 2) hx hb hts hiX2 hown hK hP 0 rfl rfl 1 (by decide) (hts (.fieldLink RX2 15 "HeardSecond$Page" "length" "I") (by decide +kernel)) (fun _ h9 => h9) rfl dX2_append_14 ?_
    refine lv_iload_n hx hb dX2_append_17 rfl (lv_at hl 1 rfl) ?_
    refine z_bwv (wr := [(h0, .inr (2, [.ref q, .int (nI n)]))]) (ws' := fun (_ : Unit) => [(h0, .inr (2, [.ref q, .int (nI n)])), (q, .inl (cA, 18, .inl (jPut 18 f (nI n) x)))]) (z_runSN (As := [.ref q, .int (nI n), .int x]) (rest := []) ⟨hx, hb, hml, hown, hts⟩ (c_X4_put (n := 18) (q := q) (f := f) (x := nI n) (v := x) (by first | assumption | omega) _) (va_cnB (own := RX2) (host := "HeardSecond") (index := 19) 3 hts ggX2_append_X4_put rfl rfl rfl (hN.get 21 rfl) (hts (.initialized RX4) (by decide +kernel)) (by decide +kernel) ⟨Nat.le_of_ble_eq_true rfl, Nat.le_of_ble_eq_true rfl⟩) (hts (.static yX4_put) (by decide +kernel)) hK hP hD hN [1] rfl rfl rfl hl.1 rfl (Nat.le_of_ble_eq_true rfl) dX2_append_18 ⟨Nat.zero_le _, Nat.zero_le _⟩) hP hD hS hA [1] [0] [0, 1] rfl rfl rfl (by decide) rfl (fun _ => rfl) (fun u4 H locs hw2 hP hD hS => ?_)
    have hP : va_P D vwCl [(h0, .inr (2, [.ref q, .int (nI n)])), (q, .inl (cA, 18, .inl (jPut 18 f (nI n) x)))] H := hP
    have hD : va_D A [(h0, .inr (2, [.ref q, .int (nI n)])), (q, .inl (cA, 18, .inl (jPut 18 f (nI n) x)))] := hD
    refine lv_aload_n hx hb dX2_append_21 rfl (lv_at hl 0 rfl) ?_
    refine lv_dup hx hb dX2_append_22 rfl ?_
    refine va_get (D := D) (ci := 2) (v := .int (nI n)) (C := RX2) (T := TX2) (N := 2) hx hb hts hiX2 hown hK hP 0 rfl rfl 1 (by decide) (hts (.fieldLink RX2 15 "HeardSecond$Page" "length" "I") (by decide +kernel)) (fun _ h9 => h9) rfl dX2_append_23 ?_
    refine lv_iconst (v := 1) hx hb dX2_append_26 (by decide) ?_
    refine lv_iadd hx hb dX2_append_27 ?_
    refine va_put (D := D) (ci := 2) (v := .int ((nI n) + 1)) (ty := .int) (C := RX2) (T := TX2) (N := 2) hx hb hts hiX2 tyX2 tyX2_ok nmX2 hown hK hP hD hS 0 rfl rfl 1 (by decide) (hts (.fieldLink RX2 15 "HeardSecond$Page" "length" "I") (by decide +kernel)) (fun _ h9 => h9) rfl (by decide +kernel) (rfl) rfl (Nat.le_of_ble_eq_true rfl) dX2_append_28 (fun H locs hP hD hS => ?_)
    have hP : va_P D vwCl [(h0, .inr (2, [.ref q, .int ((nI n) + 1)])), (q, .inl (cA, 18, .inl (jPut 18 f (nI n) x)))] H := hP
    have hD : va_D A [(h0, .inr (2, [.ref q, .int ((nI n) + 1)])), (q, .inl (cA, 18, .inl (jPut 18 f (nI n) x)))] := hD
    -- path 1
    have hP : va_P D vwCl [(h0, .inr (2, [.ref q, .int (nI (n + 1))])), (q, .inl (cA, 18, .inl (jPut 18 f (nI n) x)))] H := by have e_ : (nI n) + 1 = nI (n + 1) := (by clear hret hl hS hD hP hK hA hN hts hx hb hr hml hown hlocks hiX2; exact nI_1 n); rw [← e_]; exact hP
    have hD : va_D A [(h0, .inr (2, [.ref q, .int (nI (n + 1))])), (q, .inl (cA, 18, .inl (jPut 18 f (nI n) x)))] := by have e_ : (nI n) + 1 = nI (n + 1) := (by clear hret hl hS hD hP hK hA hN hts hx hb hr hml hown hlocks hiX2; exact nI_1 n); rw [← e_]; exact hD
    have hP : va_P D vwCl [(h0, .inr (2, [.ref q, .int (nI (n + 1))])), (q, .inl (cA, 18, .inl (upd f n x)))] H := z_arrP hP 1 (g := (upd f n x)) rfl (by clear hret hl hS hD hP hK hA hN hts hx hb hr hml hown hlocks hiX2; intro j _; rw [jPut_nI hn (by decide)]) rfl
    have hD : va_D A [(h0, .inr (2, [.ref q, .int (nI (n + 1))])), (q, .inl (cA, 18, .inl (upd f n x)))] := z_arrD hD 1 rfl rfl
    exact hret () _ _ _ _ dX2_append_31 (by trivial) hP hD hS
abbrev rm_c_X2_wipe : Room := { frames := 0, cells := 0, slots := 0, locals := 0 }
set_option maxHeartbeats 400000 in
set_option maxRecDepth 20000 in
theorem c_X2_wipe {l : Launch} {D : va_G} {cA : ClassId} {h0 : Nat} {q : Nat} {n : Nat} {f : Nat → Int32} : zMv l yX2_wipe wsX2_wipe rm_c_X2_wipe D cA [(h0, .inr (2, [.ref q, .int (nI n)])), (q, .inl (cA, 18, .inl f))] [.ref h0] (fun (_ : Unit) => True) (fun (_ : Unit) => [(h0, .inr (2, [.ref q, .int (nI 0)])), (q, .inl (cA, 18, .inl f))]) := by
  refine z_enterv (cc := cX2_wipe) (maxL := 1) (by decide) rfl (Nat.le_of_ble_eq_true rfl) (fun p e s m args below meth c ls A H0 H locs Q hi_ hA hK hP hD hS hl hret => ?_)
  obtain ⟨hx, hb, hr, hml, hown, hts, hlocks, hN⟩ := hi_
  have hl : lv_has ls 1 [(0, .ref h0)] := hl
  have hiX2 : ∀ w ∈ wsX20, w ∈ wsX2_wipe := by decide +kernel
  refine lv_aload_n hx hb dX2_wipe_0 rfl (lv_at hl 0 rfl) ?_
  refine lv_iconst (v := nI 0) hx hb dX2_wipe_1 (by decide) ?_
  refine va_put (D := D) (ci := 2) (v := .int (nI 0)) (ty := .int) (C := RX2) (T := TX2) (N := 2) hx hb hts hiX2 tyX2 tyX2_ok nmX2 hown hK hP hD hS 0 rfl rfl 1 (by decide) (hts (.fieldLink RX2 15 "HeardSecond$Page" "length" "I") (by decide +kernel)) (fun _ h9 => h9) rfl (by decide +kernel) (rfl) rfl (Nat.le_of_ble_eq_true rfl) dX2_wipe_2 (fun H locs hP hD hS => ?_)
  have hP : va_P D vwCl [(h0, .inr (2, [.ref q, .int (nI 0)])), (q, .inl (cA, 18, .inl f))] H := hP
  have hD : va_D A [(h0, .inr (2, [.ref q, .int (nI 0)])), (q, .inl (cA, 18, .inl f))] := hD
  -- path 1
  exact hret () _ _ _ _ dX2_wipe_5 (by trivial) hP hD hS
abbrev rm_c_X2_codeAt : Room := { frames := 1, cells := 0, slots := 0, locals := 21 }
set_option maxHeartbeats 400000 in
set_option maxRecDepth 20000 in
theorem c_X2_codeAt {l : Launch} {D : va_G} {cA : ClassId} {h0 : Nat} {q : Nat} {n : Nat} {f : Nat → Int32} {x : Int32} (hn : n ≤ 18) : zMi l yX2_codeAt wsX2_codeAt rm_c_X2_codeAt D cA [(h0, .inr (2, [.ref q, .int (nI n)])), (q, .inl (cA, 18, .inl f))] [.ref h0, .int x] (fun (r : Int32) (_ : Unit) => r = jCode n f x) (fun (_ : Unit) => [(h0, .inr (2, [.ref q, .int (nI n)])), (q, .inl (cA, 18, .inl f))]) := by
  refine z_enteri (cc := cX2_codeAt) (maxL := 2) (ty := .int) (by decide) rfl (Nat.le_of_ble_eq_true rfl) (fun p e s m args below meth c ls A H0 H locs Q hi_ hA hK hP hD hS hl hret => ?_)
  obtain ⟨hx, hb, hr, hml, hown, hts, hlocks, hN⟩ := hi_
  have hl : lv_has ls 2 [(0, .ref h0), (1, .int x)] := hl
  have hiX2 : ∀ w ∈ wsX20, w ∈ wsX2_codeAt := by decide +kernel
  refine lv_iload_n hx hb dX2_codeAt_0 rfl (lv_at hl 1 rfl) ?_
  refine lv_if_lt (tgt := 23) hx hb dX2_codeAt_1 (by decide) (fun c1_1 => ?_) (fun c1_1 => ?_)
  · skip
    refine lv_iconst (v := 0) hx hb dX2_codeAt_23 (by decide) ?_
    -- path 1
    exact hret (0) () _ _ _ _ dX2_codeAt_24 (rfl) (by clear hret hl hS hD hP hK hA hN hts hx hb hr hml hown hlocks hiX2; first | (grind [jCode]) | (rw [jAt, if_pos ⟨Int32.not_lt.mp c1_1, z_ltM hn (by decide) (Int32.not_le.mp c9_2)⟩, jCode, if_pos ⟨Int32.not_lt.mp c1_1, Int32.not_le.mp c9_2⟩])) hP hD hS
  · skip
    refine lv_iload_n hx hb dX2_codeAt_4 rfl (lv_at hl 1 rfl) ?_
    refine lv_aload_n hx hb dX2_codeAt_5 rfl (lv_at hl 0 rfl) ?_
    refine va_get (D := D) (ci := 2) (v := .int (nI n)) (C := RX2) (T := TX2) (N := 2) hx hb hts hiX2 hown hK hP 0 rfl rfl 1 (by decide) (hts (.fieldLink RX2 15 "HeardSecond$Page" "length" "I") (by decide +kernel)) (fun _ h9 => h9) rfl dX2_codeAt_6 ?_
    refine lv_icmp_ge (tgt := 23) hx hb dX2_codeAt_9 (by decide) (fun c9_2 => ?_) (fun c9_2 => ?_)
    · skip
      refine lv_iconst (v := 0) hx hb dX2_codeAt_23 (by decide) ?_
      -- path 2
      exact hret (0) () _ _ _ _ dX2_codeAt_24 (rfl) (by clear hret hl hS hD hP hK hA hN hts hx hb hr hml hown hlocks hiX2; first | (grind [jCode]) | (rw [jAt, if_pos ⟨Int32.not_lt.mp c1_1, z_ltM hn (by decide) (Int32.not_le.mp c9_2)⟩, jCode, if_pos ⟨Int32.not_lt.mp c1_1, Int32.not_le.mp c9_2⟩])) hP hD hS
    · skip
      refine lv_aload_n hx hb dX2_codeAt_12 rfl (lv_at hl 0 rfl) ?_
      refine va_get (D := D) (ci := 2) (v := .ref q) (C := RX2) (T := TX2) (N := 2) hx hb hts hiX2 hown hK hP 0 rfl rfl 0 (by decide) (hts (.fieldLink RX2 9 "HeardSecond$Page" "codes" "[I") (by decide +kernel)) (fun _ h9 => h9) rfl dX2_codeAt_13 ?_
      refine lv_iload_n hx hb dX2_codeAt_16 rfl (lv_at hl 1 rfl) ?_
      refine z_bri (z_runSN (As := [.ref q, .int x]) (rest := []) ⟨hx, hb, hml, hown, hts⟩ (c_X4_at (n := 18) (q := q) (f := f) (x := x) (by first | assumption | omega) _) (va_cnB (own := RX2) (host := "HeardSecond") (index := 23) 2 hts ggX2_codeAt_X4_at rfl rfl rfl (hN.get 22 rfl) (hts (.initialized RX4) (by decide +kernel)) (by decide +kernel) ⟨Nat.le_of_ble_eq_true rfl, Nat.le_of_ble_eq_true rfl⟩) (hts (.static yX4_at) (by decide +kernel)) hK hP hD hN [1] rfl rfl rfl hl.1 rfl (Nat.le_of_ble_eq_true rfl) dX2_codeAt_17 ⟨Nat.zero_le _, Nat.zero_le _⟩) hP hD hS hA [1] rfl (fun r4 u5 H locs hw3 hP hS => ?_)
      obtain rfl : r4 = jAt 18 f x := hw3
      refine lv_goto (tgt := 24) hx hb dX2_codeAt_20 (by decide) ?_
      -- path 3
      exact hret (jAt 18 f x) () _ _ _ _ dX2_codeAt_24 (rfl) (by clear hret hl hS hD hP hK hA hN hts hx hb hr hml hown hlocks hiX2; first | (grind [jCode]) | (rw [jAt, if_pos ⟨Int32.not_lt.mp c1_1, z_ltM hn (by decide) (Int32.not_le.mp c9_2)⟩, jCode, if_pos ⟨Int32.not_lt.mp c1_1, Int32.not_le.mp c9_2⟩])) hP hD hS
abbrev rm_c_X2_kindOf : Room := { frames := 0, cells := 0, slots := 0, locals := 0 }
set_option maxHeartbeats 400000 in
set_option maxRecDepth 20000 in
theorem c_X2_kindOf {l : Launch} {D : va_G} {cA : ClassId} {c_ : Int32} : zMi l yX2_kindOf wsX2_kindOf rm_c_X2_kindOf D cA [] [.int c_] (fun (r : Int32) (_ : Unit) => r = jKindOf c_) (fun (_ : Unit) => []) := by
  refine z_enteri (cc := cX2_kindOf) (maxL := 1) (ty := .int) (by decide) rfl (Nat.le_of_ble_eq_true rfl) (fun p e s m args below meth c ls A H0 H locs Q hi_ hA hK hP hD hS hl hret => ?_)
  obtain ⟨hx, hb, hr, hml, hown, hts, hlocks, hN⟩ := hi_
  have hl : lv_has ls 1 [(0, .int c_)] := hl
  refine lv_iload_n hx hb dX2_kindOf_0 rfl (lv_at hl 0 rfl) ?_
  by_cases c1_1v101 : c_ = 101
  · skip
    refine lv_lookup (off := 55) (tgt := 56) hx hb dX2_kindOf_1 (by decide) (by rw [c1_1v101]; rfl) (by decide) ?_
    refine lv_iconst (v := 2) hx hb dX2_kindOf_56 (by decide) ?_
    -- path 1
    exact hret (2) () _ _ _ _ dX2_kindOf_57 (rfl) (by clear hret hl hS hD hP hK hA hN hts hx hb hr hml hown hlocks ; grind [jKindOf]) hP hD hS
  by_cases c1_1v102 : c_ = 102
  · skip
    refine lv_lookup (off := 57) (tgt := 58) hx hb dX2_kindOf_1 (by decide) (by rw [c1_1v102]; rfl) (by decide) ?_
    refine lv_iconst (v := 3) hx hb dX2_kindOf_58 (by decide) ?_
    -- path 2
    exact hret (3) () _ _ _ _ dX2_kindOf_59 (rfl) (by clear hret hl hS hD hP hK hA hN hts hx hb hr hml hown hlocks ; grind [jKindOf]) hP hD hS
  by_cases c1_1v109 : c_ = 109
  · skip
    refine lv_lookup (off := 59) (tgt := 60) hx hb dX2_kindOf_1 (by decide) (by rw [c1_1v109]; rfl) (by decide) ?_
    refine lv_iconst (v := 4) hx hb dX2_kindOf_60 (by decide) ?_
    -- path 3
    exact hret (4) () _ _ _ _ dX2_kindOf_61 (rfl) (by clear hret hl hS hD hP hK hA hN hts hx hb hr hml hown hlocks ; grind [jKindOf]) hP hD hS
  by_cases c1_1v115 : c_ = 115
  · skip
    refine lv_lookup (off := 51) (tgt := 52) hx hb dX2_kindOf_1 (by decide) (by rw [c1_1v115]; rfl) (by decide) ?_
    refine lv_iconst (v := 0) hx hb dX2_kindOf_52 (by decide) ?_
    -- path 4
    exact hret (0) () _ _ _ _ dX2_kindOf_53 (rfl) (by clear hret hl hS hD hP hK hA hN hts hx hb hr hml hown hlocks ; grind [jKindOf]) hP hD hS
  by_cases c1_1v119 : c_ = 119
  · skip
    refine lv_lookup (off := 53) (tgt := 54) hx hb dX2_kindOf_1 (by decide) (by rw [c1_1v119]; rfl) (by decide) ?_
    refine lv_iconst (v := 1) hx hb dX2_kindOf_54 (by decide) ?_
    -- path 5
    exact hret (1) () _ _ _ _ dX2_kindOf_55 (rfl) (by clear hret hl hS hD hP hK hA hN hts hx hb hr hml hown hlocks ; grind [jKindOf]) hP hD hS
  refine lv_lookup (off := 61) (tgt := 62) hx hb dX2_kindOf_1 (by decide) (z_lkKind c1_1v101 c1_1v102 c1_1v109 c1_1v115 c1_1v119) (by decide) ?_
  refine lv_iconst (v := (-1)) hx hb dX2_kindOf_62 (by decide) ?_
  -- path 6
  exact hret ((-1)) () _ _ _ _ dX2_kindOf_63 (rfl) (by clear hret hl hS hD hP hK hA hN hts hx hb hr hml hown hlocks ; grind [jKindOf]) hP hD hS
abbrev rm_c_X2_dueBehindMark : Room := { frames := 0, cells := 0, slots := 0, locals := 0 }
set_option maxHeartbeats 400000 in
set_option maxRecDepth 20000 in
theorem c_X2_dueBehindMark {l : Launch} {D : va_G} {cA : ClassId} {c_ : Int32} {s_ : Int32} : zMi l yX2_dueBehindMark wsX2_dueBehindMark rm_c_X2_dueBehindMark D cA [] [.int c_, .int s_] (fun (r : Int32) (_ : Unit) => r = jDueM c_ s_) (fun (_ : Unit) => []) := by
  refine z_enteri (cc := cX2_dueBehindMark) (maxL := 2) (ty := .int) (by decide) rfl (Nat.le_of_ble_eq_true rfl) (fun p e s m args below meth c ls A H0 H locs Q hi_ hA hK hP hD hS hl hret => ?_)
  obtain ⟨hx, hb, hr, hml, hown, hts, hlocks, hN⟩ := hi_
  have hl : lv_has ls 2 [(0, .int c_), (1, .int s_)] := hl
  refine lv_iload_n hx hb dX2_dueBehindMark_0 rfl (lv_at hl 0 rfl) ?_
  refine lv_bipush (v := 44) hx hb dX2_dueBehindMark_1 (by decide) ?_
  refine lv_icmp_ne (tgt := 13) hx hb dX2_dueBehindMark_3 (by decide) (fun c3_1 => ?_) (fun c3_1 => ?_)
  · skip
    refine lv_iload_n hx hb dX2_dueBehindMark_13 rfl (lv_at hl 0 rfl) ?_
    refine lv_bipush (v := 59) hx hb dX2_dueBehindMark_14 (by decide) ?_
    refine lv_icmp_ne (tgt := 28) hx hb dX2_dueBehindMark_16 (by decide) (fun c16_2 => ?_) (fun c16_2 => ?_)
    · skip
      refine lv_iconst (v := 5) hx hb dX2_dueBehindMark_28 (by decide) ?_
      -- path 1
      exact hret (5) () _ _ _ _ dX2_dueBehindMark_29 (rfl) (by clear hret hl hS hD hP hK hA hN hts hx hb hr hml hown hlocks ; grind [jDueM]) hP hD hS
    · skip
      refine lv_iload_n hx hb dX2_dueBehindMark_19 rfl (lv_at hl 1 rfl) ?_
      refine lv_iconst (v := 2) hx hb dX2_dueBehindMark_20 (by decide) ?_
      refine lv_icmp_lt (tgt := 28) hx hb dX2_dueBehindMark_21 (by decide) (fun c21_3 => ?_) (fun c21_3 => ?_)
      · skip
        refine lv_iconst (v := 5) hx hb dX2_dueBehindMark_28 (by decide) ?_
        -- path 2
        exact hret (5) () _ _ _ _ dX2_dueBehindMark_29 (rfl) (by clear hret hl hS hD hP hK hA hN hts hx hb hr hml hown hlocks ; grind [jDueM]) hP hD hS
      · skip
        refine lv_iconst (v := 3) hx hb dX2_dueBehindMark_24 (by decide) ?_
        refine lv_goto (tgt := 29) hx hb dX2_dueBehindMark_25 (by decide) ?_
        -- path 3
        exact hret (3) () _ _ _ _ dX2_dueBehindMark_29 (rfl) (by clear hret hl hS hD hP hK hA hN hts hx hb hr hml hown hlocks ; grind [jDueM]) hP hD hS
  · skip
    refine lv_iload_n hx hb dX2_dueBehindMark_6 rfl (lv_at hl 1 rfl) ?_
    refine lv_iconst (v := 5) hx hb dX2_dueBehindMark_7 (by decide) ?_
    refine lv_icmp_ge (tgt := 13) hx hb dX2_dueBehindMark_8 (by decide) (fun c8_4 => ?_) (fun c8_4 => ?_)
    · skip
      refine lv_iload_n hx hb dX2_dueBehindMark_13 rfl (lv_at hl 0 rfl) ?_
      refine lv_bipush (v := 59) hx hb dX2_dueBehindMark_14 (by decide) ?_
      refine lv_icmp_ne (tgt := 28) hx hb dX2_dueBehindMark_16 (by decide) (fun c16_5 => ?_) (fun c16_5 => ?_)
      · skip
        refine lv_iconst (v := 5) hx hb dX2_dueBehindMark_28 (by decide) ?_
        -- path 4
        exact hret (5) () _ _ _ _ dX2_dueBehindMark_29 (rfl) (by clear hret hl hS hD hP hK hA hN hts hx hb hr hml hown hlocks ; grind [jDueM]) hP hD hS
      · skip
        refine lv_iload_n hx hb dX2_dueBehindMark_19 rfl (lv_at hl 1 rfl) ?_
        refine lv_iconst (v := 2) hx hb dX2_dueBehindMark_20 (by decide) ?_
        refine lv_icmp_lt (tgt := 28) hx hb dX2_dueBehindMark_21 (by decide) (fun c21_6 => ?_) (fun c21_6 => ?_)
        · skip
          refine lv_iconst (v := 5) hx hb dX2_dueBehindMark_28 (by decide) ?_
          -- path 5
          exact hret (5) () _ _ _ _ dX2_dueBehindMark_29 (rfl) (by clear hret hl hS hD hP hK hA hN hts hx hb hr hml hown hlocks ; grind [jDueM]) hP hD hS
        · skip
          refine lv_iconst (v := 3) hx hb dX2_dueBehindMark_24 (by decide) ?_
          refine lv_goto (tgt := 29) hx hb dX2_dueBehindMark_25 (by decide) ?_
          -- path 6
          exact hret (3) () _ _ _ _ dX2_dueBehindMark_29 (rfl) (by clear hret hl hS hD hP hK hA hN hts hx hb hr hml hown hlocks ; grind [jDueM]) hP hD hS
    · skip
      refine lv_iconst (v := 0) hx hb dX2_dueBehindMark_11 (by decide) ?_
      -- path 7
      exact hret (0) () _ _ _ _ dX2_dueBehindMark_12 (rfl) (by clear hret hl hS hD hP hK hA hN hts hx hb hr hml hown hlocks ; grind [jDueM]) hP hD hS
abbrev rm_c_X2_dueBehind : Room := { frames := 1, cells := 0, slots := 0, locals := 21 }
set_option maxHeartbeats 400000 in
set_option maxRecDepth 20000 in
theorem c_X2_dueBehind {l : Launch} {D : va_G} {cA : ClassId} {d_ : Int32} {c_ : Int32} {s_ : Int32} : zMi l yX2_dueBehind wsX2_dueBehind rm_c_X2_dueBehind D cA [] [.int d_, .int c_, .int s_] (fun (r : Int32) (_ : Unit) => r = jDue d_ c_ s_) (fun (_ : Unit) => []) := by
  refine z_enteri (cc := cX2_dueBehind) (maxL := 3) (ty := .int) (by decide) rfl (Nat.le_of_ble_eq_true rfl) (fun p e s m args below meth c ls A H0 H locs Q hi_ hA hK hP hD hS hl hret => ?_)
  obtain ⟨hx, hb, hr, hml, hown, hts, hlocks, hN⟩ := hi_
  have hl : lv_has ls 3 [(0, .int d_), (1, .int c_), (2, .int s_)] := hl
  refine lv_iload_n hx hb dX2_dueBehind_0 rfl (lv_at hl 0 rfl) ?_
  by_cases c1_1v0 : d_ = 0
  · skip
    refine lv_tableIn (off := 31) (tgt := 32) hx hb dX2_dueBehind_1 (by rw [c1_1v0]; decide) (by rw [c1_1v0]; decide) (by rw [c1_1v0]; rfl) (by decide) ?_
    refine lv_iload_n hx hb dX2_dueBehind_32 rfl (lv_at hl 1 rfl) ?_
    refine z_bri (z_runS (As := [.int c_]) (rest := []) ⟨hx, hb, hml, hown, hts⟩ (c_X2_kindOf (c_ := c_) _) (va_cwS 1 hts gX2_dueBehind_X2_kindOf rfl rfl rfl (by decide +kernel) ⟨Nat.le_of_ble_eq_true rfl, Nat.le_of_ble_eq_true rfl⟩) hK hP hD hN [] rfl rfl rfl hl.1 rfl (Nat.le_of_ble_eq_true rfl) dX2_dueBehind_33 ⟨Nat.zero_le _, Nat.zero_le _⟩) hP hD hS hA [] rfl (fun r3 u4 H locs hw2 hP hS => ?_)
    obtain rfl : r3 = jKindOf c_ := hw2
    refine lv_iconst (v := (-1)) hx hb dX2_dueBehind_36 (by decide) ?_
    refine lv_icmp_eq (tgt := 44) hx hb dX2_dueBehind_37 (by decide) (fun c37_5 => ?_) (fun c37_5 => ?_)
    · skip
      refine lv_iconst (v := 5) hx hb dX2_dueBehind_44 (by decide) ?_
      -- path 1
      exact hret (5) () _ _ _ _ dX2_dueBehind_45 (rfl) (by clear hret hl hS hD hP hK hA hN hts hx hb hr hml hown hlocks ; grind [jDue]) hP hD hS
    · skip
      refine lv_iconst (v := 1) hx hb dX2_dueBehind_40 (by decide) ?_
      refine lv_goto (tgt := 45) hx hb dX2_dueBehind_41 (by decide) ?_
      -- path 2
      exact hret (1) () _ _ _ _ dX2_dueBehind_45 (rfl) (by clear hret hl hS hD hP hK hA hN hts hx hb hr hml hown hlocks ; grind [jDue]) hP hD hS
  by_cases c1_1v1 : d_ = 1
  · skip
    refine lv_tableIn (off := 45) (tgt := 46) hx hb dX2_dueBehind_1 (by rw [c1_1v1]; decide) (by rw [c1_1v1]; decide) (by rw [c1_1v1]; rfl) (by decide) ?_
    refine lv_iload_n hx hb dX2_dueBehind_46 rfl (lv_at hl 1 rfl) ?_
    refine lv_bipush (v := 48) hx hb dX2_dueBehind_47 (by decide) ?_
    refine lv_icmp_eq (tgt := 58) hx hb dX2_dueBehind_49 (by decide) (fun c49_6 => ?_) (fun c49_6 => ?_)
    · skip
      refine lv_iconst (v := 2) hx hb dX2_dueBehind_58 (by decide) ?_
      refine lv_goto (tgt := 63) hx hb dX2_dueBehind_59 (by decide) ?_
      -- path 3
      exact hret (2) () _ _ _ _ dX2_dueBehind_63 (rfl) (by clear hret hl hS hD hP hK hA hN hts hx hb hr hml hown hlocks ; grind [jDue]) hP hD hS
    · skip
      refine lv_iload_n hx hb dX2_dueBehind_52 rfl (lv_at hl 1 rfl) ?_
      refine lv_bipush (v := 49) hx hb dX2_dueBehind_53 (by decide) ?_
      refine lv_icmp_ne (tgt := 62) hx hb dX2_dueBehind_55 (by decide) (fun c55_7 => ?_) (fun c55_7 => ?_)
      · skip
        refine lv_iconst (v := 5) hx hb dX2_dueBehind_62 (by decide) ?_
        -- path 4
        exact hret (5) () _ _ _ _ dX2_dueBehind_63 (rfl) (by clear hret hl hS hD hP hK hA hN hts hx hb hr hml hown hlocks ; grind [jDue]) hP hD hS
      · skip
        refine lv_iconst (v := 2) hx hb dX2_dueBehind_58 (by decide) ?_
        refine lv_goto (tgt := 63) hx hb dX2_dueBehind_59 (by decide) ?_
        -- path 5
        exact hret (2) () _ _ _ _ dX2_dueBehind_63 (rfl) (by clear hret hl hS hD hP hK hA hN hts hx hb hr hml hown hlocks ; grind [jDue]) hP hD hS
  by_cases c1_1v2 : d_ = 2
  · skip
    refine lv_tableIn (off := 63) (tgt := 64) hx hb dX2_dueBehind_1 (by rw [c1_1v2]; decide) (by rw [c1_1v2]; decide) (by rw [c1_1v2]; rfl) (by decide) ?_
    refine lv_iload_n hx hb dX2_dueBehind_64 rfl (lv_at hl 1 rfl) ?_
    refine lv_iload_n hx hb dX2_dueBehind_65 rfl (lv_at hl 2 rfl) ?_
    refine z_bri (z_runS (As := [.int c_, .int s_]) (rest := []) ⟨hx, hb, hml, hown, hts⟩ (c_X2_dueBehindMark (c_ := c_) (s_ := s_) _) (va_cwS 2 hts gX2_dueBehind_X2_dueBehindMark rfl rfl rfl (by decide +kernel) ⟨Nat.le_of_ble_eq_true rfl, Nat.le_of_ble_eq_true rfl⟩) hK hP hD hN [] rfl rfl rfl hl.1 rfl (Nat.le_of_ble_eq_true rfl) dX2_dueBehind_66 ⟨Nat.zero_le _, Nat.zero_le _⟩) hP hD hS hA [] rfl (fun r9 u10 H locs hw8 hP hS => ?_)
    obtain rfl : r9 = jDueM c_ s_ := hw8
    -- path 6
    exact hret (jDueM c_ s_) () _ _ _ _ dX2_dueBehind_69 (rfl) (by clear hret hl hS hD hP hK hA hN hts hx hb hr hml hown hlocks ; grind [jDue]) hP hD hS
  by_cases c1_1v3 : d_ = 3
  · skip
    refine lv_tableIn (off := 69) (tgt := 70) hx hb dX2_dueBehind_1 (by rw [c1_1v3]; decide) (by rw [c1_1v3]; decide) (by rw [c1_1v3]; rfl) (by decide) ?_
    refine lv_iload_n hx hb dX2_dueBehind_70 rfl (lv_at hl 1 rfl) ?_
    refine lv_bipush (v := 49) hx hb dX2_dueBehind_71 (by decide) ?_
    refine lv_icmp_lt (tgt := 86) hx hb dX2_dueBehind_73 (by decide) (fun c73_11 => ?_) (fun c73_11 => ?_)
    · skip
      refine lv_iconst (v := 5) hx hb dX2_dueBehind_86 (by decide) ?_
      -- path 7
      exact hret (5) () _ _ _ _ dX2_dueBehind_87 (rfl) (by clear hret hl hS hD hP hK hA hN hts hx hb hr hml hown hlocks ; grind [jDue]) hP hD hS
    · skip
      refine lv_iload_n hx hb dX2_dueBehind_76 rfl (lv_at hl 1 rfl) ?_
      refine lv_bipush (v := 57) hx hb dX2_dueBehind_77 (by decide) ?_
      refine lv_icmp_gt (tgt := 86) hx hb dX2_dueBehind_79 (by decide) (fun c79_12 => ?_) (fun c79_12 => ?_)
      · skip
        refine lv_iconst (v := 5) hx hb dX2_dueBehind_86 (by decide) ?_
        -- path 8
        exact hret (5) () _ _ _ _ dX2_dueBehind_87 (rfl) (by clear hret hl hS hD hP hK hA hN hts hx hb hr hml hown hlocks ; grind [jDue]) hP hD hS
      · skip
        refine lv_iconst (v := 4) hx hb dX2_dueBehind_82 (by decide) ?_
        refine lv_goto (tgt := 87) hx hb dX2_dueBehind_83 (by decide) ?_
        -- path 9
        exact hret (4) () _ _ _ _ dX2_dueBehind_87 (rfl) (by clear hret hl hS hD hP hK hA hN hts hx hb hr hml hown hlocks ; grind [jDue]) hP hD hS
  refine lv_tableOut (tgt := 88) hx hb dX2_dueBehind_1 (z_out0_3 c1_1v0 c1_1v1 c1_1v2 c1_1v3) (by decide) ?_
  refine lv_iconst (v := 5) hx hb dX2_dueBehind_88 (by decide) ?_
  -- path 10
  exact hret (5) () _ _ _ _ dX2_dueBehind_89 (rfl) (by clear hret hl hS hD hP hK hA hN hts hx hb hr hml hown hlocks ; grind [jDue]) hP hD hS
abbrev rm_c_X2_firstFault : Room := { frames := 2, cells := 0, slots := 0, locals := 43 }
set_option maxHeartbeats 400000 in
set_option maxRecDepth 20000 in
theorem c_X2_firstFault {l : Launch} {D : va_G} {cA : ClassId} {h0 : Nat} {q : Nat} {n : Nat} {f : Nat → Int32} (hn : n ≤ 18) : zMi l yX2_firstFault wsX2_firstFault rm_c_X2_firstFault D cA [(h0, .inr (2, [.ref q, .int (nI n)])), (q, .inl (cA, 18, .inl f))] [.ref h0] (fun (r : Int32) (_ : Unit) => r = nI (jFF f n 0 0 0)) (fun (_ : Unit) => [(h0, .inr (2, [.ref q, .int (nI n)])), (q, .inl (cA, 18, .inl f))]) := by
  refine z_enteri (cc := cX2_firstFault) (maxL := 5) (ty := .int) (by decide) rfl (Nat.le_of_ble_eq_true rfl) (fun p e s m args below meth c ls A H0 H locs Q hi_ hA hK hP hD hS hl hret => ?_)
  obtain ⟨hx, hb, hr, hml, hown, hts, hlocks, hN⟩ := hi_
  have hl : lv_has ls 5 [(0, .ref h0)] := hl
  have hiX2 : ∀ w ∈ wsX20, w ∈ wsX2_firstFault := by decide +kernel
  refine lv_iconst (v := 0) hx hb dX2_firstFault_0 (by decide) ?_
  refine lv_istore_n (lv' := [(1, .int 0), (0, .ref h0)]) hx hb dX2_firstFault_1 rfl hl (by decide) rfl (fun ls hl => ?_)
  refine lv_iconst (v := 0) hx hb dX2_firstFault_2 (by decide) ?_
  refine lv_istore_n (lv' := [(2, .int 0), (1, .int 0), (0, .ref h0)]) hx hb dX2_firstFault_3 rfl hl (by decide) rfl (fun ls hl => ?_)
  refine lv_iconst (v := nI 0) hx hb dX2_firstFault_4 (by decide) ?_
  refine lv_istore_n (lv' := [(3, .int (nI 0)), (2, .int 0), (1, .int 0), (0, .ref h0)]) hx hb dX2_firstFault_5 rfl hl (by decide) rfl (fun ls hl => ?_)
  have L6 : ∀ (n_ : Nat) (i : Nat) (d : Int32) (s_ : Int32) (hm_ : n + 1 ≤ i + n_) (hi : i ≤ n) (hg : jFF f n 0 0 0 = jFF f (n - i) i d s_) (H : Heap) (locs : List Loc) (ls : Array Slot), va_P D vwCl [(h0, .inr (2, [.ref q, .int (nI n)])), (q, .inl (cA, 18, .inl f))] H → va_D A [(h0, .inr (2, [.ref q, .int (nI n)])), (q, .inl (cA, 18, .inl f))] → va_S A H0 H locs → lv_has ls 5 [(0, .ref h0), (1, .int d), (2, .int s_), (3, .int (nI i))] → W p l e rm_c_X2_firstFault s m args below meth c H locs 0 0 Q (F0 m 6 ls []) := by
    intro n_
    induction n_ with
    | zero =>
      intro i d s_ hm_ hi hg
      exact absurd hm_ (by omega)
    | succ n_ ih_ =>
      intro i d s_ hm_ hi hg H locs ls hP hD hS hl
      have ih1 := ih_
      clear ih_
      refine lv_iload_n hx hb dX2_firstFault_6 rfl (lv_at hl 3 rfl) ?_
      refine lv_aload_n hx hb dX2_firstFault_7 rfl (lv_at hl 0 rfl) ?_
      refine va_get (D := D) (ci := 2) (v := .int (nI n)) (C := RX2) (T := TX2) (N := 2) hx hb hts hiX2 hown hK hP 0 rfl rfl 1 (by decide) (hts (.fieldLink RX2 15 "HeardSecond$Page" "length" "I") (by decide +kernel)) (fun _ h9 => h9) rfl dX2_firstFault_8 ?_
      refine lv_icmp_ge (tgt := 49) hx hb dX2_firstFault_11 (by decide) (fun c11_2 => ?_) (fun c11_2 => ?_)
      · skip
        have ht_ := (nI_leI (by omega) (by omega)).mp c11_2
        refine lv_aload_n hx hb dX2_firstFault_49 rfl (lv_at hl 0 rfl) ?_
        refine va_get (D := D) (ci := 2) (v := .int (nI n)) (C := RX2) (T := TX2) (N := 2) hx hb hts hiX2 hown hK hP 0 rfl rfl 1 (by decide) (hts (.fieldLink RX2 15 "HeardSecond$Page" "length" "I") (by decide +kernel)) (fun _ h9 => h9) rfl dX2_firstFault_50 ?_
        -- path 1
        exact hret (nI n) () _ _ _ _ dX2_firstFault_53 (rfl) (by clear hret hl hS hD hP hK hA hN hts hx hb hr hml hown hlocks hiX2 ih1; first | (rw [hg, show n - i = (n - (i + 1)) + 1 from by omega]; simp_all [jFF]; done) | (rw [hg, show n - i = 0 from by omega]; simp only [jFF]; congr 1; omega)) hP hD hS
      · skip
        have hlt : i < n := Nat.lt_of_not_le (fun q_ => c11_2 ((nI_leI (by omega) (by omega)).mpr q_))
        refine lv_aload_n hx hb dX2_firstFault_14 rfl (lv_at hl 0 rfl) ?_
        refine lv_iload_n hx hb dX2_firstFault_15 rfl (lv_at hl 3 rfl) ?_
        refine z_bri (z_runV (As := [.int (nI i)]) (rest := []) (ci := 2) ⟨hx, hb, hml, hown, hts⟩ (c_X2_codeAt (h0 := h0) (q := q) (n := n) (f := f) (x := nI i) (by first | assumption | omega) _) (cwV 1 hts gX2_firstFault_X2_codeAt rfl rfl rfl (by decide +kernel) ⟨Nat.le_of_ble_eq_true rfl, Nat.le_of_ble_eq_true rfl⟩) hK hP hD hN [0, 1] rfl rfl rfl rfl rfl hl.1 rfl (Nat.le_of_ble_eq_true rfl) dX2_firstFault_16 ⟨Nat.zero_le _, Nat.zero_le _⟩) hP hD hS hA [0, 1] rfl (fun r4 u5 H locs hw3 hP hS => ?_)
        obtain rfl : r4 = jCode n f (nI i) := hw3
        refine z_top (y := f i) (jCode_nI hlt (by omega)) ?_
        refine lv_istore (lv' := [(4, .int (f i)), (0, .ref h0), (1, .int d), (2, .int s_), (3, .int (nI i))]) hx hb dX2_firstFault_19 hl (by decide) rfl (fun ls hl => ?_)
        refine lv_iload_n hx hb dX2_firstFault_21 rfl (lv_at hl 2 rfl) ?_
        refine lv_if_ne (tgt := 28) hx hb dX2_firstFault_22 (by decide) (fun c22_6 => ?_) (fun c22_6 => ?_)
        · skip
          refine lv_iload_n hx hb dX2_firstFault_28 rfl (lv_at hl 2 rfl) ?_
          refine lv_iload hx hb dX2_firstFault_29 (lv_at hl 0 rfl) ?_
          refine lv_iload_n hx hb dX2_firstFault_31 rfl (lv_at hl 3 rfl) ?_
          refine z_bri (z_runS (As := [.int d, .int (f i), .int s_]) (rest := []) ⟨hx, hb, hml, hown, hts⟩ (c_X2_dueBehind (d_ := d) (c_ := f i) (s_ := s_) _) (va_cwS 3 hts gX2_firstFault_X2_dueBehind rfl rfl rfl (by decide +kernel) ⟨Nat.le_of_ble_eq_true rfl, Nat.le_of_ble_eq_true rfl⟩) hK hP hD hN [] rfl rfl rfl hl.1 rfl (Nat.le_of_ble_eq_true rfl) dX2_firstFault_32 ⟨Nat.zero_le _, Nat.zero_le _⟩) hP hD hS hA [] rfl (fun r8 u9 H locs hw7 hP hS => ?_)
          obtain rfl : r8 = jDue d (f i) s_ := hw7
          refine lv_istore_n (lv' := [(1, .int (jDue d (f i) s_)), (4, .int (f i)), (0, .ref h0), (2, .int s_), (3, .int (nI i))]) hx hb dX2_firstFault_35 rfl hl (by decide) rfl (fun ls hl => ?_)
          refine lv_iload_n hx hb dX2_firstFault_36 rfl (lv_at hl 0 rfl) ?_
          refine lv_iconst (v := 5) hx hb dX2_firstFault_37 (by decide) ?_
          refine lv_icmp_ne (tgt := 43) hx hb dX2_firstFault_38 (by decide) (fun c38_10 => ?_) (fun c38_10 => ?_)
          · skip
            refine lv_iinc (v := nI (i + 1)) (lv' := [(3, .int (nI (i + 1))), (1, .int (jDue d (f i) s_)), (4, .int (f i)), (0, .ref h0), (2, .int s_)]) hx hb dX2_firstFault_43 hl (k := 4) rfl (nI_1 i) (by decide) rfl (fun ls hl => ?_)
            refine lv_goto (tgt := 6) hx hb dX2_firstFault_46 (by decide) ?_
            exact ih1 (i + 1) (jDue d (f i) s_) s_ (by omega) (by first | assumption | omega) (by clear hret hl hS hD hP hK hA hN hts hx hb hr hml hown hlocks hiX2 ih1; rw [hg, show n - i = (n - (i + 1)) + 1 from by omega]; simp only [jFF]; simp_all) _ _ _ hP hD hS (lv_sub hl [3, 1, 4, 0] rfl)
          · skip
            refine lv_iload_n hx hb dX2_firstFault_41 rfl (lv_at hl 4 rfl) ?_
            -- path 2
            exact hret (nI i) () _ _ _ _ dX2_firstFault_42 (rfl) (by clear hret hl hS hD hP hK hA hN hts hx hb hr hml hown hlocks hiX2 ih1; first | (rw [hg, show n - i = (n - (i + 1)) + 1 from by omega]; simp_all [jFF]; done) | (rw [hg, show n - i = 0 from by omega]; simp only [jFF]; congr 1; omega)) hP hD hS
        · skip
          refine lv_iinc (v := s_ + 1) (lv' := [(2, .int (s_ + 1)), (4, .int (f i)), (0, .ref h0), (1, .int d), (3, .int (nI i))]) hx hb dX2_firstFault_25 hl (k := 3) rfl (rfl) (by decide) rfl (fun ls hl => ?_)
          refine lv_iload_n hx hb dX2_firstFault_28 rfl (lv_at hl 3 rfl) ?_
          refine lv_iload hx hb dX2_firstFault_29 (lv_at hl 1 rfl) ?_
          refine lv_iload_n hx hb dX2_firstFault_31 rfl (lv_at hl 0 rfl) ?_
          refine z_bri (z_runS (As := [.int d, .int (f i), .int (s_ + 1)]) (rest := []) ⟨hx, hb, hml, hown, hts⟩ (c_X2_dueBehind (d_ := d) (c_ := f i) (s_ := s_ + 1) _) (va_cwS 3 hts gX2_firstFault_X2_dueBehind rfl rfl rfl (by decide +kernel) ⟨Nat.le_of_ble_eq_true rfl, Nat.le_of_ble_eq_true rfl⟩) hK hP hD hN [] rfl rfl rfl hl.1 rfl (Nat.le_of_ble_eq_true rfl) dX2_firstFault_32 ⟨Nat.zero_le _, Nat.zero_le _⟩) hP hD hS hA [] rfl (fun r12 u13 H locs hw11 hP hS => ?_)
          obtain rfl : r12 = jDue d (f i) (s_ + 1) := hw11
          refine lv_istore_n (lv' := [(1, .int (jDue d (f i) (s_ + 1))), (2, .int (s_ + 1)), (4, .int (f i)), (0, .ref h0), (3, .int (nI i))]) hx hb dX2_firstFault_35 rfl hl (by decide) rfl (fun ls hl => ?_)
          refine lv_iload_n hx hb dX2_firstFault_36 rfl (lv_at hl 0 rfl) ?_
          refine lv_iconst (v := 5) hx hb dX2_firstFault_37 (by decide) ?_
          refine lv_icmp_ne (tgt := 43) hx hb dX2_firstFault_38 (by decide) (fun c38_14 => ?_) (fun c38_14 => ?_)
          · skip
            refine lv_iinc (v := nI (i + 1)) (lv' := [(3, .int (nI (i + 1))), (1, .int (jDue d (f i) (s_ + 1))), (2, .int (s_ + 1)), (4, .int (f i)), (0, .ref h0)]) hx hb dX2_firstFault_43 hl (k := 4) rfl (nI_1 i) (by decide) rfl (fun ls hl => ?_)
            refine lv_goto (tgt := 6) hx hb dX2_firstFault_46 (by decide) ?_
            exact ih1 (i + 1) (jDue d (f i) (s_ + 1)) (s_ + 1) (by omega) (by first | assumption | omega) (by clear hret hl hS hD hP hK hA hN hts hx hb hr hml hown hlocks hiX2 ih1; rw [hg, show n - i = (n - (i + 1)) + 1 from by omega]; simp only [jFF]; simp_all) _ _ _ hP hD hS (lv_sub hl [4, 1, 2, 0] rfl)
          · skip
            refine lv_iload_n hx hb dX2_firstFault_41 rfl (lv_at hl 4 rfl) ?_
            -- path 3
            exact hret (nI i) () _ _ _ _ dX2_firstFault_42 (rfl) (by clear hret hl hS hD hP hK hA hN hts hx hb hr hml hown hlocks hiX2 ih1; first | (rw [hg, show n - i = (n - (i + 1)) + 1 from by omega]; simp_all [jFF]; done) | (rw [hg, show n - i = 0 from by omega]; simp only [jFF]; congr 1; omega)) hP hD hS
  exact L6 (n + 1) 0 0 0 (by omega) (by first | assumption | omega) (by rfl) _ _ _ hP hD hS (lv_sub hl [3, 2, 1, 0] rfl)
abbrev rm_c_X2_isWhole : Room := { frames := 3, cells := 0, slots := 0, locals := 67 }
set_option maxHeartbeats 400000 in
set_option maxRecDepth 20000 in
theorem c_X2_isWhole {l : Launch} {D : va_G} {cA : ClassId} {h0 : Nat} {q : Nat} {n : Nat} {f : Nat → Int32} (hn : n ≤ 18) : zMi l yX2_isWhole wsX2_isWhole rm_c_X2_isWhole D cA [(h0, .inr (2, [.ref q, .int (nI n)])), (q, .inl (cA, 18, .inl f))] [.ref h0] (fun (r : Int32) (_ : Unit) => r = bI (jWhole n f)) (fun (_ : Unit) => [(h0, .inr (2, [.ref q, .int (nI n)])), (q, .inl (cA, 18, .inl f))]) := by
  refine z_enteri (cc := cX2_isWhole) (maxL := 1) (ty := .boolean) (by decide) rfl (Nat.le_of_ble_eq_true rfl) (fun p e s m args below meth c ls A H0 H locs Q hi_ hA hK hP hD hS hl hret => ?_)
  obtain ⟨hx, hb, hr, hml, hown, hts, hlocks, hN⟩ := hi_
  have hl : lv_has ls 1 [(0, .ref h0)] := hl
  have hiX2 : ∀ w ∈ wsX20, w ∈ wsX2_isWhole := by decide +kernel
  refine lv_aload_n hx hb dX2_isWhole_0 rfl (lv_at hl 0 rfl) ?_
  refine va_get (D := D) (ci := 2) (v := .int (nI n)) (C := RX2) (T := TX2) (N := 2) hx hb hts hiX2 hown hK hP 0 rfl rfl 1 (by decide) (hts (.fieldLink RX2 15 "HeardSecond$Page" "length" "I") (by decide +kernel)) (fun _ h9 => h9) rfl dX2_isWhole_1 ?_
  refine lv_iconst (v := 2) hx hb dX2_isWhole_4 (by decide) ?_
  refine lv_icmp_lt (tgt := 38) hx hb dX2_isWhole_5 (by decide) (fun c5_1 => ?_) (fun c5_1 => ?_)
  · skip
    have ht_ := (nI_ltI (b := 2) (by omega) (by omega)).mp c5_1
    refine lv_iconst (v := 0) hx hb dX2_isWhole_38 (by decide) ?_
    -- path 1
    exact hret (0) () _ _ _ _ dX2_isWhole_39 (rfl) (by clear hret hl hS hD hP hK hA hN hts hx hb hr hml hown hlocks hiX2; first | (grind [jWhole, bI]) | (have h_ : ¬ 2 ≤ n := by omega; simp_all [jWhole, bI]; done)) hP hD hS
  · skip
    have hlt : 2 ≤ n := Nat.le_of_not_lt (fun q_ => c5_1 ((nI_ltI (b := 2) (by omega) (by omega)).mpr q_))
    refine lv_aload_n hx hb dX2_isWhole_8 rfl (lv_at hl 0 rfl) ?_
    refine lv_aload_n hx hb dX2_isWhole_9 rfl (lv_at hl 0 rfl) ?_
    refine va_get (D := D) (ci := 2) (v := .int (nI n)) (C := RX2) (T := TX2) (N := 2) hx hb hts hiX2 hown hK hP 0 rfl rfl 1 (by decide) (hts (.fieldLink RX2 15 "HeardSecond$Page" "length" "I") (by decide +kernel)) (fun _ h9 => h9) rfl dX2_isWhole_10 ?_
    refine lv_iconst (v := 2) hx hb dX2_isWhole_13 (by decide) ?_
    refine lv_isub hx hb dX2_isWhole_14 ?_
    refine z_top (y := nI (n - 2)) (z_sub (b := 2) hlt) ?_
    refine z_bri (z_runV (As := [.int (nI (n - 2))]) (rest := []) (ci := 2) ⟨hx, hb, hml, hown, hts⟩ (c_X2_codeAt (h0 := h0) (q := q) (n := n) (f := f) (x := nI (n - 2)) (by first | assumption | omega) _) (cwV 1 hts gX2_isWhole_X2_codeAt rfl rfl rfl (by decide +kernel) ⟨Nat.le_of_ble_eq_true rfl, Nat.le_of_ble_eq_true rfl⟩) hK hP hD hN [0, 1] rfl rfl rfl rfl rfl hl.1 rfl (Nat.le_of_ble_eq_true rfl) dX2_isWhole_15 ⟨Nat.zero_le _, Nat.zero_le _⟩) hP hD hS hA [0, 1] rfl (fun r3 u4 H locs hw2 hP hS => ?_)
    obtain rfl : r3 = jCode n f (nI (n - 2)) := hw2
    refine z_top (y := f (n - 2)) (jCode_nI (by omega) (by omega)) ?_
    refine lv_bipush (v := 59) hx hb dX2_isWhole_18 (by decide) ?_
    refine lv_icmp_ne (tgt := 38) hx hb dX2_isWhole_20 (by decide) (fun c20_5 => ?_) (fun c20_5 => ?_)
    · skip
      refine lv_iconst (v := 0) hx hb dX2_isWhole_38 (by decide) ?_
      -- path 2
      exact hret (0) () _ _ _ _ dX2_isWhole_39 (rfl) (by clear hret hl hS hD hP hK hA hN hts hx hb hr hml hown hlocks hiX2; first | (grind [jWhole, bI]) | (have h_ : ¬ 2 ≤ n := by omega; simp_all [jWhole, bI]; done)) hP hD hS
    · skip
      refine lv_aload_n hx hb dX2_isWhole_23 rfl (lv_at hl 0 rfl) ?_
      refine z_bri (z_runV (As := []) (rest := []) (ci := 2) ⟨hx, hb, hml, hown, hts⟩ (c_X2_firstFault (h0 := h0) (q := q) (n := n) (f := f) (by first | assumption | omega) _) (cwV 0 hts gX2_isWhole_X2_firstFault rfl rfl rfl (by decide +kernel) ⟨Nat.le_of_ble_eq_true rfl, Nat.le_of_ble_eq_true rfl⟩) hK hP hD hN [0, 1] rfl rfl rfl rfl rfl hl.1 rfl (Nat.le_of_ble_eq_true rfl) dX2_isWhole_24 ⟨Nat.zero_le _, Nat.zero_le _⟩) hP hD hS hA [0, 1] rfl (fun r7 u8 H locs hw6 hP hS => ?_)
      obtain rfl : r7 = nI (jFF f n 0 0 0) := hw6
      refine lv_aload_n hx hb dX2_isWhole_27 rfl (lv_at hl 0 rfl) ?_
      refine va_get (D := D) (ci := 2) (v := .int (nI n)) (C := RX2) (T := TX2) (N := 2) hx hb hts hiX2 hown hK hP 0 rfl rfl 1 (by decide) (hts (.fieldLink RX2 15 "HeardSecond$Page" "length" "I") (by decide +kernel)) (fun _ h9 => h9) rfl dX2_isWhole_28 ?_
      refine lv_icmp_ne (tgt := 38) hx hb dX2_isWhole_31 (by decide) (fun c31_9 => ?_) (fun c31_9 => ?_)
      · skip
        have hne_ : jFF f n 0 0 0 ≠ n := fun q_ => c31_9 (by rw [q_])
        refine lv_iconst (v := 0) hx hb dX2_isWhole_38 (by decide) ?_
        -- path 3
        exact hret (0) () _ _ _ _ dX2_isWhole_39 (rfl) (by clear hret hl hS hD hP hK hA hN hts hx hb hr hml hown hlocks hiX2; first | (grind [jWhole, bI]) | (have h_ : ¬ 2 ≤ n := by omega; simp_all [jWhole, bI]; done)) hP hD hS
      · skip
        have heq_ : jFF f n 0 0 0 = n := (nI_eq (by have := jFF_le f n 0 0 0; omega) (by omega)).mp c31_9
        refine lv_iconst (v := 1) hx hb dX2_isWhole_34 (by decide) ?_
        refine lv_goto (tgt := 39) hx hb dX2_isWhole_35 (by decide) ?_
        -- path 4
        exact hret (1) () _ _ _ _ dX2_isWhole_39 (rfl) (by clear hret hl hS hD hP hK hA hN hts hx hb hr hml hown hlocks hiX2; first | (grind [jWhole, bI]) | (have h_ : ¬ 2 ≤ n := by omega; simp_all [jWhole, bI]; done)) hP hD hS
abbrev rm_c_X0_isSet : Room := { frames := 0, cells := 0, slots := 0, locals := 0 }
set_option maxHeartbeats 400000 in
set_option maxRecDepth 20000 in
theorem c_X0_isSet {l : Launch} {D : va_G} {cA : ClassId} {b0 : Nat} {qk : Nat} {qs : Nat} {N : Nat} {pt : Int32} (h5 : N ≤ 5) : zMi l yX0_isSet wsX0_isSet rm_c_X0_isSet D cA [(b0, .inr (0, [.ref qk, .ref qs, .int (nI N), .int pt]))] [.ref b0] (fun (r : Int32) (_ : Unit) => r = bI (decide (0 < N))) (fun (_ : Unit) => [(b0, .inr (0, [.ref qk, .ref qs, .int (nI N), .int pt]))]) := by
  refine z_enteri (cc := cX0_isSet) (maxL := 1) (ty := .boolean) (by decide) rfl (Nat.le_of_ble_eq_true rfl) (fun p e s m args below meth c ls A H0 H locs Q hi_ hA hK hP hD hS hl hret => ?_)
  obtain ⟨hx, hb, hr, hml, hown, hts, hlocks, hN⟩ := hi_
  have hl : lv_has ls 1 [(0, .ref b0)] := hl
  have hiX0 : ∀ w ∈ wsX00, w ∈ wsX0_isSet := by decide +kernel
  refine lv_aload_n hx hb dX0_isSet_0 rfl (lv_at hl 0 rfl) ?_
  refine va_get (D := D) (ci := 0) (v := .int (nI N)) (C := RX0) (T := TX0) (N := 4) hx hb hts hiX0 hown hK hP 0 rfl rfl 2 (by decide) (hts (.fieldLink RX0 30 "HeardSecond$Bench" "seats" "I") (by decide +kernel)) (fun _ h9 => h9) rfl dX0_isSet_1 ?_
  refine lv_if_le (tgt := 11) hx hb dX0_isSet_4 (by decide) (fun c4_1 => ?_) (fun c4_1 => ?_)
  · skip
    have hz_ : ¬ 0 < N := fun q_ => absurd ((nI_leI (b := 0) (by omega) (by omega)).mp c4_1) (by omega)
    refine lv_iconst (v := 0) hx hb dX0_isSet_11 (by decide) ?_
    -- path 1
    exact hret (0) () _ _ _ _ dX0_isSet_12 (rfl) (by clear hret hl hS hD hP hK hA hN hts hx hb hr hml hown hlocks hiX0; grind [bI]) hP hD hS
  · skip
    have hz_ : 0 < N := Nat.lt_of_not_le (fun q_ => c4_1 ((nI_leI (b := 0) (by omega) (by omega)).mpr q_))
    refine lv_iconst (v := 1) hx hb dX0_isSet_7 (by decide) ?_
    refine lv_goto (tgt := 12) hx hb dX0_isSet_8 (by decide) ?_
    -- path 2
    exact hret (1) () _ _ _ _ dX0_isSet_12 (rfl) (by clear hret hl hS hD hP hK hA hN hts hx hb hr hml hown hlocks hiX0; grind [bI]) hP hD hS
abbrev rm_c_X0_has : Room := { frames := 0, cells := 0, slots := 0, locals := 0 }
set_option maxHeartbeats 400000 in
set_option maxRecDepth 20000 in
theorem c_X0_has {l : Launch} {D : va_G} {cA : ClassId} {b0 : Nat} {qk : Nat} {qs : Nat} {N : Nat} {pt : Int32} {x : Int32} : zMi l yX0_has wsX0_has rm_c_X0_has D cA [(b0, .inr (0, [.ref qk, .ref qs, .int (nI N), .int pt]))] [.ref b0, .int x] (fun (r : Int32) (_ : Unit) => r = bI (jHas N x)) (fun (_ : Unit) => [(b0, .inr (0, [.ref qk, .ref qs, .int (nI N), .int pt]))]) := by
  refine z_enteri (cc := cX0_has) (maxL := 2) (ty := .boolean) (by decide) rfl (Nat.le_of_ble_eq_true rfl) (fun p e s m args below meth c ls A H0 H locs Q hi_ hA hK hP hD hS hl hret => ?_)
  obtain ⟨hx, hb, hr, hml, hown, hts, hlocks, hN⟩ := hi_
  have hl : lv_has ls 2 [(0, .ref b0), (1, .int x)] := hl
  have hiX0 : ∀ w ∈ wsX00, w ∈ wsX0_has := by decide +kernel
  refine lv_iload_n hx hb dX0_has_0 rfl (lv_at hl 1 rfl) ?_
  refine lv_if_lt (tgt := 16) hx hb dX0_has_1 (by decide) (fun c1_1 => ?_) (fun c1_1 => ?_)
  · skip
    refine lv_iconst (v := 0) hx hb dX0_has_16 (by decide) ?_
    -- path 1
    exact hret (0) () _ _ _ _ dX0_has_17 (rfl) (by clear hret hl hS hD hP hK hA hN hts hx hb hr hml hown hlocks hiX0; grind [jHas, bI]) hP hD hS
  · skip
    refine lv_iload_n hx hb dX0_has_4 rfl (lv_at hl 1 rfl) ?_
    refine lv_aload_n hx hb dX0_has_5 rfl (lv_at hl 0 rfl) ?_
    refine va_get (D := D) (ci := 0) (v := .int (nI N)) (C := RX0) (T := TX0) (N := 4) hx hb hts hiX0 hown hK hP 0 rfl rfl 2 (by decide) (hts (.fieldLink RX0 30 "HeardSecond$Bench" "seats" "I") (by decide +kernel)) (fun _ h9 => h9) rfl dX0_has_6 ?_
    refine lv_icmp_ge (tgt := 16) hx hb dX0_has_9 (by decide) (fun c9_2 => ?_) (fun c9_2 => ?_)
    · skip
      refine lv_iconst (v := 0) hx hb dX0_has_16 (by decide) ?_
      -- path 2
      exact hret (0) () _ _ _ _ dX0_has_17 (rfl) (by clear hret hl hS hD hP hK hA hN hts hx hb hr hml hown hlocks hiX0; grind [jHas, bI]) hP hD hS
    · skip
      refine lv_iconst (v := 1) hx hb dX0_has_12 (by decide) ?_
      refine lv_goto (tgt := 17) hx hb dX0_has_13 (by decide) ?_
      -- path 3
      exact hret (1) () _ _ _ _ dX0_has_17 (rfl) (by clear hret hl hS hD hP hK hA hN hts hx hb hr hml hown hlocks hiX0; grind [jHas, bI]) hP hD hS
abbrev rm_c_X0_namesOnlySeats : Room := { frames := 0, cells := 0, slots := 0, locals := 0 }
set_option maxHeartbeats 400000 in
set_option maxRecDepth 20000 in
theorem c_X0_namesOnlySeats {l : Launch} {D : va_G} {cA : ClassId} {b0 : Nat} {qk : Nat} {qs : Nat} {N : Nat} {pt : Int32} {x : Int32} : zMi l yX0_namesOnlySeats wsX0_namesOnlySeats rm_c_X0_namesOnlySeats D cA [(b0, .inr (0, [.ref qk, .ref qs, .int (nI N), .int pt]))] [.ref b0, .int x] (fun (r : Int32) (_ : Unit) => r = bI (jNames N x)) (fun (_ : Unit) => [(b0, .inr (0, [.ref qk, .ref qs, .int (nI N), .int pt]))]) := by
  refine z_enteri (cc := cX0_namesOnlySeats) (maxL := 2) (ty := .boolean) (by decide) rfl (Nat.le_of_ble_eq_true rfl) (fun p e s m args below meth c ls A H0 H locs Q hi_ hA hK hP hD hS hl hret => ?_)
  obtain ⟨hx, hb, hr, hml, hown, hts, hlocks, hN⟩ := hi_
  have hl : lv_has ls 2 [(0, .ref b0), (1, .int x)] := hl
  have hiX0 : ∀ w ∈ wsX00, w ∈ wsX0_namesOnlySeats := by decide +kernel
  refine lv_iload_n hx hb dX0_namesOnlySeats_0 rfl (lv_at hl 1 rfl) ?_
  refine lv_if_lt (tgt := 18) hx hb dX0_namesOnlySeats_1 (by decide) (fun c1_1 => ?_) (fun c1_1 => ?_)
  · skip
    refine lv_iconst (v := 0) hx hb dX0_namesOnlySeats_18 (by decide) ?_
    -- path 1
    exact hret (0) () _ _ _ _ dX0_namesOnlySeats_19 (rfl) (by clear hret hl hS hD hP hK hA hN hts hx hb hr hml hown hlocks hiX0; grind [jNames, bI]) hP hD hS
  · skip
    refine lv_iload_n hx hb dX0_namesOnlySeats_4 rfl (lv_at hl 1 rfl) ?_
    refine lv_iconst (v := 1) hx hb dX0_namesOnlySeats_5 (by decide) ?_
    refine lv_aload_n hx hb dX0_namesOnlySeats_6 rfl (lv_at hl 0 rfl) ?_
    refine va_get (D := D) (ci := 0) (v := .int (nI N)) (C := RX0) (T := TX0) (N := 4) hx hb hts hiX0 hown hK hP 0 rfl rfl 2 (by decide) (hts (.fieldLink RX0 30 "HeardSecond$Bench" "seats" "I") (by decide +kernel)) (fun _ h9 => h9) rfl dX0_namesOnlySeats_7 ?_
    refine lv_ishl hx hb dX0_namesOnlySeats_10 ?_
    refine lv_icmp_ge (tgt := 18) hx hb dX0_namesOnlySeats_11 (by decide) (fun c11_2 => ?_) (fun c11_2 => ?_)
    · skip
      refine lv_iconst (v := 0) hx hb dX0_namesOnlySeats_18 (by decide) ?_
      -- path 2
      exact hret (0) () _ _ _ _ dX0_namesOnlySeats_19 (rfl) (by clear hret hl hS hD hP hK hA hN hts hx hb hr hml hown hlocks hiX0; grind [jNames, bI]) hP hD hS
    · skip
      refine lv_iconst (v := 1) hx hb dX0_namesOnlySeats_14 (by decide) ?_
      refine lv_goto (tgt := 19) hx hb dX0_namesOnlySeats_15 (by decide) ?_
      -- path 3
      exact hret (1) () _ _ _ _ dX0_namesOnlySeats_19 (rfl) (by clear hret hl hS hD hP hK hA hN hts hx hb hr hml hown hlocks hiX0; grind [jNames, bI]) hP hD hS
abbrev rm_c_X0_kindAt : Room := { frames := 0, cells := 0, slots := 0, locals := 0 }
set_option maxHeartbeats 400000 in
set_option maxRecDepth 20000 in
theorem c_X0_kindAt {l : Launch} {D : va_G} {cA : ClassId} {b0 : Nat} {qk : Nat} {qs : Nat} {N : Nat} {pt : Int32} {kf : Nat → Int32} {x : Int32} (h5 : N ≤ 5) : zMi l yX0_kindAt wsX0_kindAt rm_c_X0_kindAt D cA [(b0, .inr (0, [.ref qk, .ref qs, .int (nI N), .int pt])), (qk, .inl (cA, 5, .inl kf))] [.ref b0, .int x] (fun (r : Int32) (_ : Unit) => r = jKind N kf x) (fun (_ : Unit) => [(b0, .inr (0, [.ref qk, .ref qs, .int (nI N), .int pt])), (qk, .inl (cA, 5, .inl kf))]) := by
  refine z_enteri (cc := cX0_kindAt) (maxL := 2) (ty := .int) (by decide) rfl (Nat.le_of_ble_eq_true rfl) (fun p e s m args below meth c ls A H0 H locs Q hi_ hA hK hP hD hS hl hret => ?_)
  obtain ⟨hx, hb, hr, hml, hown, hts, hlocks, hN⟩ := hi_
  have hl : lv_has ls 2 [(0, .ref b0), (1, .int x)] := hl
  have hiX0 : ∀ w ∈ wsX00, w ∈ wsX0_kindAt := by decide +kernel
  refine lv_iload_n hx hb dX0_kindAt_0 rfl (lv_at hl 1 rfl) ?_
  refine lv_if_lt (tgt := 30) hx hb dX0_kindAt_1 (by decide) (fun c1_1 => ?_) (fun c1_1 => ?_)
  · skip
    refine lv_iconst (v := (-1)) hx hb dX0_kindAt_30 (by decide) ?_
    -- path 1
    exact hret ((-1)) () _ _ _ _ dX0_kindAt_31 (rfl) (by clear hret hl hS hD hP hK hA hN hts hx hb hr hml hown hlocks hiX0; first | (exact absurd (z_ltM h5 (by decide) (Int32.not_le.mp c9_2)) (Int32.not_lt.mpr c18_3)) | (grind [jKind])) hP hD hS
  · skip
    refine lv_iload_n hx hb dX0_kindAt_4 rfl (lv_at hl 1 rfl) ?_
    refine lv_aload_n hx hb dX0_kindAt_5 rfl (lv_at hl 0 rfl) ?_
    refine va_get (D := D) (ci := 0) (v := .int (nI N)) (C := RX0) (T := TX0) (N := 4) hx hb hts hiX0 hown hK hP 0 rfl rfl 2 (by decide) (hts (.fieldLink RX0 30 "HeardSecond$Bench" "seats" "I") (by decide +kernel)) (fun _ h9 => h9) rfl dX0_kindAt_6 ?_
    refine lv_icmp_ge (tgt := 30) hx hb dX0_kindAt_9 (by decide) (fun c9_2 => ?_) (fun c9_2 => ?_)
    · skip
      refine lv_iconst (v := (-1)) hx hb dX0_kindAt_30 (by decide) ?_
      -- path 2
      exact hret ((-1)) () _ _ _ _ dX0_kindAt_31 (rfl) (by clear hret hl hS hD hP hK hA hN hts hx hb hr hml hown hlocks hiX0; first | (exact absurd (z_ltM h5 (by decide) (Int32.not_le.mp c9_2)) (Int32.not_lt.mpr c18_3)) | (grind [jKind])) hP hD hS
    · skip
      refine lv_iload_n hx hb dX0_kindAt_12 rfl (lv_at hl 1 rfl) ?_
      refine lv_aload_n hx hb dX0_kindAt_13 rfl (lv_at hl 0 rfl) ?_
      refine va_get (D := D) (ci := 0) (v := .ref qk) (C := RX0) (T := TX0) (N := 4) hx hb hts hiX0 hown hK hP 0 rfl rfl 0 (by decide) (hts (.fieldLink RX0 9 "HeardSecond$Bench" "kinds" "[I") (by decide +kernel)) (fun _ h9 => h9) rfl dX0_kindAt_14 ?_
      refine va_alen (v := nI 5) hx hb hK hP 1 0 rfl rfl rfl dX0_kindAt_17 ?_
      refine lv_icmp_ge (tgt := 30) hx hb dX0_kindAt_18 (by decide) (fun c18_3 => ?_) (fun c18_3 => ?_)
      · skip
        refine lv_iconst (v := (-1)) hx hb dX0_kindAt_30 (by decide) ?_
        -- path 3
        exact hret ((-1)) () _ _ _ _ dX0_kindAt_31 (rfl) (by clear hret hl hS hD hP hK hA hN hts hx hb hr hml hown hlocks hiX0; first | (exact absurd (z_ltM h5 (by decide) (Int32.not_le.mp c9_2)) (Int32.not_lt.mpr c18_3)) | (grind [jKind])) hP hD hS
      · skip
        refine lv_aload_n hx hb dX0_kindAt_21 rfl (lv_at hl 0 rfl) ?_
        refine va_get (D := D) (ci := 0) (v := .ref qk) (C := RX0) (T := TX0) (N := 4) hx hb hts hiX0 hown hK hP 0 rfl rfl 0 (by decide) (hts (.fieldLink RX0 9 "HeardSecond$Bench" "kinds" "[I") (by decide +kernel)) (fun _ h9 => h9) rfl dX0_kindAt_22 ?_
        refine lv_iload_n hx hb dX0_kindAt_25 rfl (lv_at hl 1 rfl) ?_
        refine va_iald hx hb hK hP 1 0 rfl rfl (z_in (n := 5) (by decide) (Int32.not_lt.mp c1_1) (Int32.not_le.mp c18_3)) dX0_kindAt_26 ?_
        refine lv_goto (tgt := 31) hx hb dX0_kindAt_27 (by decide) ?_
        -- path 4
        exact hret (kf (Int32.toNatClampNeg x)) () _ _ _ _ dX0_kindAt_31 (rfl) (by clear hret hl hS hD hP hK hA hN hts hx hb hr hml hown hlocks hiX0; first | (exact absurd (z_ltM h5 (by decide) (Int32.not_le.mp c9_2)) (Int32.not_lt.mpr c18_3)) | (grind [jKind])) hP hD hS
abbrev rm_c_X0_sideAt : Room := { frames := 0, cells := 0, slots := 0, locals := 0 }
set_option maxHeartbeats 400000 in
set_option maxRecDepth 20000 in
theorem c_X0_sideAt {l : Launch} {D : va_G} {cA : ClassId} {b0 : Nat} {qk : Nat} {qs : Nat} {N : Nat} {pt : Int32} {sf : Nat → Int32} {x : Int32} (h5 : N ≤ 5) : zMi l yX0_sideAt wsX0_sideAt rm_c_X0_sideAt D cA [(b0, .inr (0, [.ref qk, .ref qs, .int (nI N), .int pt])), (qs, .inl (cA, 5, .inl sf))] [.ref b0, .int x] (fun (r : Int32) (_ : Unit) => r = jKind N sf x) (fun (_ : Unit) => [(b0, .inr (0, [.ref qk, .ref qs, .int (nI N), .int pt])), (qs, .inl (cA, 5, .inl sf))]) := by
  refine z_enteri (cc := cX0_sideAt) (maxL := 2) (ty := .int) (by decide) rfl (Nat.le_of_ble_eq_true rfl) (fun p e s m args below meth c ls A H0 H locs Q hi_ hA hK hP hD hS hl hret => ?_)
  obtain ⟨hx, hb, hr, hml, hown, hts, hlocks, hN⟩ := hi_
  have hl : lv_has ls 2 [(0, .ref b0), (1, .int x)] := hl
  have hiX0 : ∀ w ∈ wsX00, w ∈ wsX0_sideAt := by decide +kernel
  refine lv_iload_n hx hb dX0_sideAt_0 rfl (lv_at hl 1 rfl) ?_
  refine lv_if_lt (tgt := 30) hx hb dX0_sideAt_1 (by decide) (fun c1_1 => ?_) (fun c1_1 => ?_)
  · skip
    refine lv_iconst (v := (-1)) hx hb dX0_sideAt_30 (by decide) ?_
    -- path 1
    exact hret ((-1)) () _ _ _ _ dX0_sideAt_31 (rfl) (by clear hret hl hS hD hP hK hA hN hts hx hb hr hml hown hlocks hiX0; first | (exact absurd (z_ltM h5 (by decide) (Int32.not_le.mp c9_2)) (Int32.not_lt.mpr c18_3)) | (grind [jKind])) hP hD hS
  · skip
    refine lv_iload_n hx hb dX0_sideAt_4 rfl (lv_at hl 1 rfl) ?_
    refine lv_aload_n hx hb dX0_sideAt_5 rfl (lv_at hl 0 rfl) ?_
    refine va_get (D := D) (ci := 0) (v := .int (nI N)) (C := RX0) (T := TX0) (N := 4) hx hb hts hiX0 hown hK hP 0 rfl rfl 2 (by decide) (hts (.fieldLink RX0 30 "HeardSecond$Bench" "seats" "I") (by decide +kernel)) (fun _ h9 => h9) rfl dX0_sideAt_6 ?_
    refine lv_icmp_ge (tgt := 30) hx hb dX0_sideAt_9 (by decide) (fun c9_2 => ?_) (fun c9_2 => ?_)
    · skip
      refine lv_iconst (v := (-1)) hx hb dX0_sideAt_30 (by decide) ?_
      -- path 2
      exact hret ((-1)) () _ _ _ _ dX0_sideAt_31 (rfl) (by clear hret hl hS hD hP hK hA hN hts hx hb hr hml hown hlocks hiX0; first | (exact absurd (z_ltM h5 (by decide) (Int32.not_le.mp c9_2)) (Int32.not_lt.mpr c18_3)) | (grind [jKind])) hP hD hS
    · skip
      refine lv_iload_n hx hb dX0_sideAt_12 rfl (lv_at hl 1 rfl) ?_
      refine lv_aload_n hx hb dX0_sideAt_13 rfl (lv_at hl 0 rfl) ?_
      refine va_get (D := D) (ci := 0) (v := .ref qs) (C := RX0) (T := TX0) (N := 4) hx hb hts hiX0 hown hK hP 0 rfl rfl 1 (by decide) (hts (.fieldLink RX0 15 "HeardSecond$Bench" "sides" "[I") (by decide +kernel)) (fun _ h9 => h9) rfl dX0_sideAt_14 ?_
      refine va_alen (v := nI 5) hx hb hK hP 1 0 rfl rfl rfl dX0_sideAt_17 ?_
      refine lv_icmp_ge (tgt := 30) hx hb dX0_sideAt_18 (by decide) (fun c18_3 => ?_) (fun c18_3 => ?_)
      · skip
        refine lv_iconst (v := (-1)) hx hb dX0_sideAt_30 (by decide) ?_
        -- path 3
        exact hret ((-1)) () _ _ _ _ dX0_sideAt_31 (rfl) (by clear hret hl hS hD hP hK hA hN hts hx hb hr hml hown hlocks hiX0; first | (exact absurd (z_ltM h5 (by decide) (Int32.not_le.mp c9_2)) (Int32.not_lt.mpr c18_3)) | (grind [jKind])) hP hD hS
      · skip
        refine lv_aload_n hx hb dX0_sideAt_21 rfl (lv_at hl 0 rfl) ?_
        refine va_get (D := D) (ci := 0) (v := .ref qs) (C := RX0) (T := TX0) (N := 4) hx hb hts hiX0 hown hK hP 0 rfl rfl 1 (by decide) (hts (.fieldLink RX0 15 "HeardSecond$Bench" "sides" "[I") (by decide +kernel)) (fun _ h9 => h9) rfl dX0_sideAt_22 ?_
        refine lv_iload_n hx hb dX0_sideAt_25 rfl (lv_at hl 1 rfl) ?_
        refine va_iald hx hb hK hP 1 0 rfl rfl (z_in (n := 5) (by decide) (Int32.not_lt.mp c1_1) (Int32.not_le.mp c18_3)) dX0_sideAt_26 ?_
        refine lv_goto (tgt := 31) hx hb dX0_sideAt_27 (by decide) ?_
        -- path 4
        exact hret (sf (Int32.toNatClampNeg x)) () _ _ _ _ dX0_sideAt_31 (rfl) (by clear hret hl hS hD hP hK hA hN hts hx hb hr hml hown hlocks hiX0; first | (exact absurd (z_ltM h5 (by decide) (Int32.not_le.mp c9_2)) (Int32.not_lt.mpr c18_3)) | (grind [jKind])) hP hD hS
abbrev rm_c_X0_isOf : Room := { frames := 1, cells := 0, slots := 0, locals := 21 }
set_option maxHeartbeats 400000 in
set_option maxRecDepth 20000 in
theorem c_X0_isOf {l : Launch} {D : va_G} {cA : ClassId} {b0 : Nat} {qk : Nat} {qs : Nat} {N : Nat} {pt : Int32} {kf : Nat → Int32} {x : Int32} {k : Int32} (h5 : N ≤ 5) : zMi l yX0_isOf wsX0_isOf rm_c_X0_isOf D cA [(b0, .inr (0, [.ref qk, .ref qs, .int (nI N), .int pt])), (qk, .inl (cA, 5, .inl kf))] [.ref b0, .int x, .int k] (fun (r : Int32) (_ : Unit) => r = bI (jIsOf N kf x k)) (fun (_ : Unit) => [(b0, .inr (0, [.ref qk, .ref qs, .int (nI N), .int pt])), (qk, .inl (cA, 5, .inl kf))]) := by
  refine z_enteri (cc := cX0_isOf) (maxL := 4) (ty := .boolean) (by decide) rfl (Nat.le_of_ble_eq_true rfl) (fun p e s m args below meth c ls A H0 H locs Q hi_ hA hK hP hD hS hl hret => ?_)
  obtain ⟨hx, hb, hr, hml, hown, hts, hlocks, hN⟩ := hi_
  have hl : lv_has ls 4 [(0, .ref b0), (1, .int x), (2, .int k)] := hl
  refine lv_aload_n hx hb dX0_isOf_0 rfl (lv_at hl 0 rfl) ?_
  refine lv_iload_n hx hb dX0_isOf_1 rfl (lv_at hl 1 rfl) ?_
  refine z_bri (z_runV (As := [.int x]) (rest := []) (ci := 0) ⟨hx, hb, hml, hown, hts⟩ (c_X0_kindAt (b0 := b0) (qk := qk) (qs := qs) (N := N) (pt := pt) (kf := kf) (x := x) (by first | assumption | omega) _) (cwV 1 hts gX0_isOf_X0_kindAt rfl rfl rfl (by decide +kernel) ⟨Nat.le_of_ble_eq_true rfl, Nat.le_of_ble_eq_true rfl⟩) hK hP hD hN [0, 1] rfl rfl rfl rfl rfl hl.1 rfl (Nat.le_of_ble_eq_true rfl) dX0_isOf_2 ⟨Nat.zero_le _, Nat.zero_le _⟩) hP hD hS hA [0, 1] rfl (fun r2 u3 H locs hw1 hP hS => ?_)
  obtain rfl : r2 = jKind N kf x := hw1
  refine lv_istore_n (lv' := [(3, .int (jKind N kf x)), (0, .ref b0), (1, .int x), (2, .int k)]) hx hb dX0_isOf_5 rfl hl (by decide) rfl (fun ls hl => ?_)
  refine lv_aload_n hx hb dX0_isOf_6 rfl (lv_at hl 1 rfl) ?_
  refine lv_iload_n hx hb dX0_isOf_7 rfl (lv_at hl 2 rfl) ?_
  refine z_bri (z_runV (As := [.int x]) (rest := []) (ci := 0) ⟨hx, hb, hml, hown, hts⟩ (c_X0_has (b0 := b0) (qk := qk) (qs := qs) (N := N) (pt := pt) (x := x) _) (cwV 1 hts gX0_isOf_X0_has rfl rfl rfl (by decide +kernel) ⟨Nat.le_of_ble_eq_true rfl, Nat.le_of_ble_eq_true rfl⟩) hK hP hD hN [0] rfl rfl rfl rfl rfl hl.1 rfl (Nat.le_of_ble_eq_true rfl) dX0_isOf_8 ⟨Nat.zero_le _, Nat.zero_le _⟩) hP hD hS hA [0] rfl (fun r5 u6 H locs hw4 hP hS => ?_)
  obtain rfl : r5 = bI (jHas N x) := hw4
  refine lv_if_eq (tgt := 37) hx hb dX0_isOf_11 (by decide) (fun c11_7 => ?_) (fun c11_7 => ?_)
  · skip
    have c11_7 := bI_0.mp c11_7
    refine lv_iconst (v := 0) hx hb dX0_isOf_37 (by decide) ?_
    -- path 1
    exact hret (0) () _ _ _ _ dX0_isOf_38 (rfl) (by clear hret hl hS hD hP hK hA hN hts hx hb hr hml hown hlocks ; grind [jIsOf, bI]) hP hD hS
  · skip
    have c11_7 := bI_n0.mp c11_7
    refine lv_iload_n hx hb dX0_isOf_14 rfl (lv_at hl 3 rfl) ?_
    refine lv_if_eq (tgt := 33) hx hb dX0_isOf_15 (by decide) (fun c15_8 => ?_) (fun c15_8 => ?_)
    · skip
      refine lv_iconst (v := 1) hx hb dX0_isOf_33 (by decide) ?_
      refine lv_goto (tgt := 38) hx hb dX0_isOf_34 (by decide) ?_
      -- path 2
      exact hret (1) () _ _ _ _ dX0_isOf_38 (rfl) (by clear hret hl hS hD hP hK hA hN hts hx hb hr hml hown hlocks ; grind [jIsOf, bI]) hP hD hS
    · skip
      refine lv_iload_n hx hb dX0_isOf_18 rfl (lv_at hl 3 rfl) ?_
      refine lv_iload_n hx hb dX0_isOf_19 rfl (lv_at hl 0 rfl) ?_
      refine lv_icmp_eq (tgt := 33) hx hb dX0_isOf_20 (by decide) (fun c20_9 => ?_) (fun c20_9 => ?_)
      · skip
        refine lv_iconst (v := 1) hx hb dX0_isOf_33 (by decide) ?_
        refine lv_goto (tgt := 38) hx hb dX0_isOf_34 (by decide) ?_
        -- path 3
        exact hret (1) () _ _ _ _ dX0_isOf_38 (rfl) (by clear hret hl hS hD hP hK hA hN hts hx hb hr hml hown hlocks ; grind [jIsOf, bI]) hP hD hS
      · skip
        refine lv_iload_n hx hb dX0_isOf_23 rfl (lv_at hl 3 rfl) ?_
        refine lv_iconst (v := 1) hx hb dX0_isOf_24 (by decide) ?_
        refine lv_icmp_ne (tgt := 37) hx hb dX0_isOf_25 (by decide) (fun c25_10 => ?_) (fun c25_10 => ?_)
        · skip
          refine lv_iconst (v := 0) hx hb dX0_isOf_37 (by decide) ?_
          -- path 4
          exact hret (0) () _ _ _ _ dX0_isOf_38 (rfl) (by clear hret hl hS hD hP hK hA hN hts hx hb hr hml hown hlocks ; grind [jIsOf, bI]) hP hD hS
        · skip
          refine lv_iload_n hx hb dX0_isOf_28 rfl (lv_at hl 0 rfl) ?_
          refine lv_iconst (v := 4) hx hb dX0_isOf_29 (by decide) ?_
          refine lv_icmp_ne (tgt := 37) hx hb dX0_isOf_30 (by decide) (fun c30_11 => ?_) (fun c30_11 => ?_)
          · skip
            refine lv_iconst (v := 0) hx hb dX0_isOf_37 (by decide) ?_
            -- path 5
            exact hret (0) () _ _ _ _ dX0_isOf_38 (rfl) (by clear hret hl hS hD hP hK hA hN hts hx hb hr hml hown hlocks ; grind [jIsOf, bI]) hP hD hS
          · skip
            refine lv_iconst (v := 1) hx hb dX0_isOf_33 (by decide) ?_
            refine lv_goto (tgt := 38) hx hb dX0_isOf_34 (by decide) ?_
            -- path 6
            exact hret (1) () _ _ _ _ dX0_isOf_38 (rfl) (by clear hret hl hS hD hP hK hA hN hts hx hb hr hml hown hlocks ; grind [jIsOf, bI]) hP hD hS
abbrev rm_c_X0_sitsBeside : Room := { frames := 0, cells := 0, slots := 0, locals := 0 }
set_option maxHeartbeats 400000 in
set_option maxRecDepth 20000 in
theorem c_X0_sitsBeside {l : Launch} {D : va_G} {cA : ClassId} {b0 : Nat} {qk : Nat} {qs : Nat} {N : Nat} {pt : Int32} {x : Int32} {y : Int32} : zMi l yX0_sitsBeside wsX0_sitsBeside rm_c_X0_sitsBeside D cA [(b0, .inr (0, [.ref qk, .ref qs, .int (nI N), .int pt]))] [.ref b0, .int x, .int y] (fun (r : Int32) (_ : Unit) => r = bI (jBeside N x y)) (fun (_ : Unit) => [(b0, .inr (0, [.ref qk, .ref qs, .int (nI N), .int pt]))]) := by
  refine z_enteri (cc := cX0_sitsBeside) (maxL := 3) (ty := .boolean) (by decide) rfl (Nat.le_of_ble_eq_true rfl) (fun p e s m args below meth c ls A H0 H locs Q hi_ hA hK hP hD hS hl hret => ?_)
  obtain ⟨hx, hb, hr, hml, hown, hts, hlocks, hN⟩ := hi_
  have hl : lv_has ls 3 [(0, .ref b0), (1, .int x), (2, .int y)] := hl
  have hiX0 : ∀ w ∈ wsX00, w ∈ wsX0_sitsBeside := by decide +kernel
  refine lv_iload_n hx hb dX0_sitsBeside_0 rfl (lv_at hl 1 rfl) ?_
  refine lv_if_lt (tgt := 30) hx hb dX0_sitsBeside_1 (by decide) (fun c1_1 => ?_) (fun c1_1 => ?_)
  · skip
    refine lv_iconst (v := 0) hx hb dX0_sitsBeside_30 (by decide) ?_
    -- path 1
    exact hret (0) () _ _ _ _ dX0_sitsBeside_31 (rfl) (by clear hret hl hS hD hP hK hA hN hts hx hb hr hml hown hlocks hiX0; grind [jBeside, bI]) hP hD hS
  · skip
    refine lv_iload_n hx hb dX0_sitsBeside_4 rfl (lv_at hl 1 rfl) ?_
    refine lv_aload_n hx hb dX0_sitsBeside_5 rfl (lv_at hl 0 rfl) ?_
    refine va_get (D := D) (ci := 0) (v := .int (nI N)) (C := RX0) (T := TX0) (N := 4) hx hb hts hiX0 hown hK hP 0 rfl rfl 2 (by decide) (hts (.fieldLink RX0 30 "HeardSecond$Bench" "seats" "I") (by decide +kernel)) (fun _ h9 => h9) rfl dX0_sitsBeside_6 ?_
    refine lv_icmp_ge (tgt := 30) hx hb dX0_sitsBeside_9 (by decide) (fun c9_2 => ?_) (fun c9_2 => ?_)
    · skip
      refine lv_iconst (v := 0) hx hb dX0_sitsBeside_30 (by decide) ?_
      -- path 2
      exact hret (0) () _ _ _ _ dX0_sitsBeside_31 (rfl) (by clear hret hl hS hD hP hK hA hN hts hx hb hr hml hown hlocks hiX0; grind [jBeside, bI]) hP hD hS
    · skip
      refine lv_iload_n hx hb dX0_sitsBeside_12 rfl (lv_at hl 1 rfl) ?_
      refine lv_iload_n hx hb dX0_sitsBeside_13 rfl (lv_at hl 2 rfl) ?_
      refine lv_iconst (v := 1) hx hb dX0_sitsBeside_14 (by decide) ?_
      refine lv_isub hx hb dX0_sitsBeside_15 ?_
      refine lv_icmp_eq (tgt := 26) hx hb dX0_sitsBeside_16 (by decide) (fun c16_3 => ?_) (fun c16_3 => ?_)
      · skip
        refine lv_iconst (v := 1) hx hb dX0_sitsBeside_26 (by decide) ?_
        refine lv_goto (tgt := 31) hx hb dX0_sitsBeside_27 (by decide) ?_
        -- path 3
        exact hret (1) () _ _ _ _ dX0_sitsBeside_31 (rfl) (by clear hret hl hS hD hP hK hA hN hts hx hb hr hml hown hlocks hiX0; grind [jBeside, bI]) hP hD hS
      · skip
        refine lv_iload_n hx hb dX0_sitsBeside_19 rfl (lv_at hl 1 rfl) ?_
        refine lv_iload_n hx hb dX0_sitsBeside_20 rfl (lv_at hl 2 rfl) ?_
        refine lv_iconst (v := 1) hx hb dX0_sitsBeside_21 (by decide) ?_
        refine lv_iadd hx hb dX0_sitsBeside_22 ?_
        refine lv_icmp_ne (tgt := 30) hx hb dX0_sitsBeside_23 (by decide) (fun c23_4 => ?_) (fun c23_4 => ?_)
        · skip
          refine lv_iconst (v := 0) hx hb dX0_sitsBeside_30 (by decide) ?_
          -- path 4
          exact hret (0) () _ _ _ _ dX0_sitsBeside_31 (rfl) (by clear hret hl hS hD hP hK hA hN hts hx hb hr hml hown hlocks hiX0; grind [jBeside, bI]) hP hD hS
        · skip
          refine lv_iconst (v := 1) hx hb dX0_sitsBeside_26 (by decide) ?_
          refine lv_goto (tgt := 31) hx hb dX0_sitsBeside_27 (by decide) ?_
          -- path 5
          exact hret (1) () _ _ _ _ dX0_sitsBeside_31 (rfl) (by clear hret hl hS hD hP hK hA hN hts hx hb hr hml hown hlocks hiX0; grind [jBeside, bI]) hP hD hS
abbrev rm_c_X0_counts : Room := { frames := 1, cells := 0, slots := 0, locals := 22 }
set_option maxHeartbeats 400000 in
set_option maxRecDepth 20000 in
theorem c_X0_counts {l : Launch} {D : va_G} {cA : ClassId} {b0 : Nat} {qk : Nat} {qs : Nat} {N : Nat} {pt : Int32} {kf : Nat → Int32} {x : Int32} {last : Int32} {o : Int32} (h5 : N ≤ 5) : zMi l yX0_counts wsX0_counts rm_c_X0_counts D cA [(b0, .inr (0, [.ref qk, .ref qs, .int (nI N), .int pt])), (qk, .inl (cA, 5, .inl kf))] [.ref b0, .int x, .int last, .int o] (fun (r : Int32) (_ : Unit) => r = bI (jCounts N kf x last o)) (fun (_ : Unit) => [(b0, .inr (0, [.ref qk, .ref qs, .int (nI N), .int pt])), (qk, .inl (cA, 5, .inl kf))]) := by
  refine z_enteri (cc := cX0_counts) (maxL := 5) (ty := .boolean) (by decide) rfl (Nat.le_of_ble_eq_true rfl) (fun p e s m args below meth c ls A H0 H locs Q hi_ hA hK hP hD hS hl hret => ?_)
  obtain ⟨hx, hb, hr, hml, hown, hts, hlocks, hN⟩ := hi_
  have hl : lv_has ls 5 [(0, .ref b0), (1, .int x), (2, .int last), (3, .int o)] := hl
  refine lv_aload_n hx hb dX0_counts_0 rfl (lv_at hl 0 rfl) ?_
  refine lv_iload_n hx hb dX0_counts_1 rfl (lv_at hl 1 rfl) ?_
  refine z_bri (z_runV (As := [.int x]) (rest := []) (ci := 0) ⟨hx, hb, hml, hown, hts⟩ (c_X0_kindAt (b0 := b0) (qk := qk) (qs := qs) (N := N) (pt := pt) (kf := kf) (x := x) (by first | assumption | omega) _) (cwV 1 hts gX0_counts_X0_kindAt rfl rfl rfl (by decide +kernel) ⟨Nat.le_of_ble_eq_true rfl, Nat.le_of_ble_eq_true rfl⟩) hK hP hD hN [0, 1] rfl rfl rfl rfl rfl hl.1 rfl (Nat.le_of_ble_eq_true rfl) dX0_counts_2 ⟨Nat.zero_le _, Nat.zero_le _⟩) hP hD hS hA [0, 1] rfl (fun r2 u3 H locs hw1 hP hS => ?_)
  obtain rfl : r2 = jKind N kf x := hw1
  refine lv_istore (lv' := [(4, .int (jKind N kf x)), (0, .ref b0), (1, .int x), (2, .int last), (3, .int o)]) hx hb dX0_counts_5 hl (by decide) rfl (fun ls hl => ?_)
  refine lv_iload hx hb dX0_counts_7 (lv_at hl 0 rfl) ?_
  refine lv_iconst (v := (-1)) hx hb dX0_counts_9 (by decide) ?_
  refine lv_icmp_eq (tgt := 27) hx hb dX0_counts_10 (by decide) (fun c10_4 => ?_) (fun c10_4 => ?_)
  · skip
    refine lv_iconst (v := 0) hx hb dX0_counts_27 (by decide) ?_
    -- path 1
    exact hret (0) () _ _ _ _ dX0_counts_28 (rfl) (by clear hret hl hS hD hP hK hA hN hts hx hb hr hml hown hlocks ; grind [jCounts, bI]) hP hD hS
  · skip
    refine lv_iload hx hb dX0_counts_13 (lv_at hl 0 rfl) ?_
    refine lv_iconst (v := 4) hx hb dX0_counts_15 (by decide) ?_
    refine lv_icmp_eq (tgt := 27) hx hb dX0_counts_16 (by decide) (fun c16_5 => ?_) (fun c16_5 => ?_)
    · skip
      refine lv_iconst (v := 0) hx hb dX0_counts_27 (by decide) ?_
      -- path 2
      exact hret (0) () _ _ _ _ dX0_counts_28 (rfl) (by clear hret hl hS hD hP hK hA hN hts hx hb hr hml hown hlocks ; grind [jCounts, bI]) hP hD hS
    · skip
      refine lv_iload_n hx hb dX0_counts_19 rfl (lv_at hl 2 rfl) ?_
      refine lv_iload_n hx hb dX0_counts_20 rfl (lv_at hl 4 rfl) ?_
      refine z_bri (z_runSN (As := [.int x, .int o]) (rest := []) ⟨hx, hb, hml, hown, hts⟩ (c_X4_isIn (x := x) (o := o) _) (va_cnB (own := RX0) (host := "HeardSecond") (index := 54) 2 hts ggX0_counts_X4_isIn rfl rfl rfl (hN.get 25 rfl) (hts (.initialized RX4) (by decide +kernel)) (by decide +kernel) ⟨Nat.le_of_ble_eq_true rfl, Nat.le_of_ble_eq_true rfl⟩) (hts (.static yX4_isIn) (by decide +kernel)) hK hP hD hN [] rfl rfl rfl hl.1 rfl (Nat.le_of_ble_eq_true rfl) dX0_counts_21 ⟨Nat.zero_le _, Nat.zero_le _⟩) hP hD hS hA [] rfl (fun r7 u8 H locs hw6 hP hS => ?_)
      obtain rfl : r7 = bI (jIsIn x o) := hw6
      refine lv_if_eq (tgt := 29) hx hb dX0_counts_24 (by decide) (fun c24_9 => ?_) (fun c24_9 => ?_)
      · skip
        have c24_9 := bI_0.mp c24_9
        refine lv_iload hx hb dX0_counts_29 (lv_at hl 0 rfl) ?_
        refine lv_iconst (v := 1) hx hb dX0_counts_31 (by decide) ?_
        refine lv_icmp_ne (tgt := 44) hx hb dX0_counts_32 (by decide) (fun c32_10 => ?_) (fun c32_10 => ?_)
        · skip
          refine lv_iconst (v := 1) hx hb dX0_counts_44 (by decide) ?_
          refine lv_goto (tgt := 49) hx hb dX0_counts_45 (by decide) ?_
          -- path 3
          exact hret (1) () _ _ _ _ dX0_counts_49 (rfl) (by clear hret hl hS hD hP hK hA hN hts hx hb hr hml hown hlocks ; grind [jCounts, bI]) hP hD hS
        · skip
          refine lv_aload_n hx hb dX0_counts_35 rfl (lv_at hl 1 rfl) ?_
          refine lv_iload_n hx hb dX0_counts_36 rfl (lv_at hl 3 rfl) ?_
          refine lv_iload_n hx hb dX0_counts_37 rfl (lv_at hl 2 rfl) ?_
          refine z_bri (z_runV (As := [.int last, .int x]) (rest := []) (ci := 0) ⟨hx, hb, hml, hown, hts⟩ (c_X0_sitsBeside (b0 := b0) (qk := qk) (qs := qs) (N := N) (pt := pt) (x := last) (y := x) _) (cwV 2 hts gX0_counts_X0_sitsBeside rfl rfl rfl (by decide +kernel) ⟨Nat.le_of_ble_eq_true rfl, Nat.le_of_ble_eq_true rfl⟩) hK hP hD hN [0] rfl rfl rfl rfl rfl hl.1 rfl (Nat.le_of_ble_eq_true rfl) dX0_counts_38 ⟨Nat.zero_le _, Nat.zero_le _⟩) hP hD hS hA [0] rfl (fun r12 u13 H locs hw11 hP hS => ?_)
          obtain rfl : r12 = bI (jBeside N last x) := hw11
          refine lv_if_eq (tgt := 48) hx hb dX0_counts_41 (by decide) (fun c41_14 => ?_) (fun c41_14 => ?_)
          · skip
            have c41_14 := bI_0.mp c41_14
            refine lv_iconst (v := 0) hx hb dX0_counts_48 (by decide) ?_
            -- path 4
            exact hret (0) () _ _ _ _ dX0_counts_49 (rfl) (by clear hret hl hS hD hP hK hA hN hts hx hb hr hml hown hlocks ; grind [jCounts, bI]) hP hD hS
          · skip
            have c41_14 := bI_n0.mp c41_14
            refine lv_iconst (v := 1) hx hb dX0_counts_44 (by decide) ?_
            refine lv_goto (tgt := 49) hx hb dX0_counts_45 (by decide) ?_
            -- path 5
            exact hret (1) () _ _ _ _ dX0_counts_49 (rfl) (by clear hret hl hS hD hP hK hA hN hts hx hb hr hml hown hlocks ; grind [jCounts, bI]) hP hD hS
      · skip
        have c24_9 := bI_n0.mp c24_9
        refine lv_iconst (v := 0) hx hb dX0_counts_27 (by decide) ?_
        -- path 6
        exact hret (0) () _ _ _ _ dX0_counts_28 (rfl) (by clear hret hl hS hD hP hK hA hN hts hx hb hr hml hown hlocks ; grind [jCounts, bI]) hP hD hS
abbrev rm_c_X0_believedBehind : Room := { frames := 1, cells := 0, slots := 0, locals := 21 }
set_option maxHeartbeats 400000 in
set_option maxRecDepth 20000 in
theorem c_X0_believedBehind {l : Launch} {D : va_G} {cA : ClassId} {b0 : Nat} {qk : Nat} {qs : Nat} {N : Nat} {pt : Int32} {kf : Nat → Int32} {x : Int32} {last : Int32} (h5 : N ≤ 5) : zMi l yX0_believedBehind wsX0_believedBehind rm_c_X0_believedBehind D cA [(b0, .inr (0, [.ref qk, .ref qs, .int (nI N), .int pt])), (qk, .inl (cA, 5, .inl kf))] [.ref b0, .int x, .int last] (fun (r : Int32) (_ : Unit) => r = jBel N kf x last) (fun (_ : Unit) => [(b0, .inr (0, [.ref qk, .ref qs, .int (nI N), .int pt])), (qk, .inl (cA, 5, .inl kf))]) := by
  refine z_enteri (cc := cX0_believedBehind) (maxL := 4) (ty := .int) (by decide) rfl (Nat.le_of_ble_eq_true rfl) (fun p e s m args below meth c ls A H0 H locs Q hi_ hA hK hP hD hS hl hret => ?_)
  obtain ⟨hx, hb, hr, hml, hown, hts, hlocks, hN⟩ := hi_
  have hl : lv_has ls 4 [(0, .ref b0), (1, .int x), (2, .int last)] := hl
  have hiX0 : ∀ w ∈ wsX00, w ∈ wsX0_believedBehind := by decide +kernel
  refine lv_aload_n hx hb dX0_believedBehind_0 rfl (lv_at hl 0 rfl) ?_
  refine lv_iload_n hx hb dX0_believedBehind_1 rfl (lv_at hl 1 rfl) ?_
  refine z_bri (z_runV (As := [.int x]) (rest := []) (ci := 0) ⟨hx, hb, hml, hown, hts⟩ (c_X0_kindAt (b0 := b0) (qk := qk) (qs := qs) (N := N) (pt := pt) (kf := kf) (x := x) (by first | assumption | omega) _) (cwV 1 hts gX0_believedBehind_X0_kindAt rfl rfl rfl (by decide +kernel) ⟨Nat.le_of_ble_eq_true rfl, Nat.le_of_ble_eq_true rfl⟩) hK hP hD hN [0, 1] rfl rfl rfl rfl rfl hl.1 rfl (Nat.le_of_ble_eq_true rfl) dX0_believedBehind_2 ⟨Nat.zero_le _, Nat.zero_le _⟩) hP hD hS hA [0, 1] rfl (fun r2 u3 H locs hw1 hP hS => ?_)
  obtain rfl : r2 = jKind N kf x := hw1
  refine lv_istore_n (lv' := [(3, .int (jKind N kf x)), (0, .ref b0), (1, .int x), (2, .int last)]) hx hb dX0_believedBehind_5 rfl hl (by decide) rfl (fun ls hl => ?_)
  refine lv_iload_n hx hb dX0_believedBehind_6 rfl (lv_at hl 3 rfl) ?_
  refine lv_iconst (v := (-1)) hx hb dX0_believedBehind_7 (by decide) ?_
  refine lv_icmp_eq (tgt := 16) hx hb dX0_believedBehind_8 (by decide) (fun c8_4 => ?_) (fun c8_4 => ?_)
  · skip
    refine lv_iconst (v := (-1)) hx hb dX0_believedBehind_16 (by decide) ?_
    -- path 1
    exact hret ((-1)) () _ _ _ _ dX0_believedBehind_17 (rfl) (by clear hret hl hS hD hP hK hA hN hts hx hb hr hml hown hlocks hiX0; grind [jBel]) hP hD hS
  · skip
    refine lv_iload_n hx hb dX0_believedBehind_11 rfl (lv_at hl 0 rfl) ?_
    refine lv_iconst (v := 2) hx hb dX0_believedBehind_12 (by decide) ?_
    refine lv_icmp_ne (tgt := 18) hx hb dX0_believedBehind_13 (by decide) (fun c13_5 => ?_) (fun c13_5 => ?_)
    · skip
      refine lv_iload_n hx hb dX0_believedBehind_18 rfl (lv_at hl 0 rfl) ?_
      refine lv_iconst (v := 3) hx hb dX0_believedBehind_19 (by decide) ?_
      refine lv_icmp_ne (tgt := 40) hx hb dX0_believedBehind_20 (by decide) (fun c20_6 => ?_) (fun c20_6 => ?_)
      · skip
        refine lv_iload_n hx hb dX0_believedBehind_40 rfl (lv_at hl 2 rfl) ?_
        -- path 2
        exact hret (x) () _ _ _ _ dX0_believedBehind_41 (rfl) (by clear hret hl hS hD hP hK hA hN hts hx hb hr hml hown hlocks hiX0; grind [jBel]) hP hD hS
      · skip
        refine lv_iload_n hx hb dX0_believedBehind_23 rfl (lv_at hl 2 rfl) ?_
        refine lv_if_ne (tgt := 36) hx hb dX0_believedBehind_24 (by decide) (fun c24_7 => ?_) (fun c24_7 => ?_)
        · skip
          refine lv_iload_n hx hb dX0_believedBehind_36 rfl (lv_at hl 2 rfl) ?_
          refine lv_iconst (v := 1) hx hb dX0_believedBehind_37 (by decide) ?_
          refine lv_isub hx hb dX0_believedBehind_38 ?_
          -- path 3
          exact hret (x - 1) () _ _ _ _ dX0_believedBehind_39 (rfl) (by clear hret hl hS hD hP hK hA hN hts hx hb hr hml hown hlocks hiX0; grind [jBel]) hP hD hS
        · skip
          refine lv_aload_n hx hb dX0_believedBehind_27 rfl (lv_at hl 1 rfl) ?_
          refine va_get (D := D) (ci := 0) (v := .int (nI N)) (C := RX0) (T := TX0) (N := 4) hx hb hts hiX0 hown hK hP 0 rfl rfl 2 (by decide) (hts (.fieldLink RX0 30 "HeardSecond$Bench" "seats" "I") (by decide +kernel)) (fun _ h9 => h9) rfl dX0_believedBehind_28 ?_
          refine lv_iconst (v := 1) hx hb dX0_believedBehind_31 (by decide) ?_
          refine lv_isub hx hb dX0_believedBehind_32 ?_
          refine lv_goto (tgt := 39) hx hb dX0_believedBehind_33 (by decide) ?_
          -- path 4
          exact hret ((nI N) - 1) () _ _ _ _ dX0_believedBehind_39 (rfl) (by clear hret hl hS hD hP hK hA hN hts hx hb hr hml hown hlocks hiX0; grind [jBel]) hP hD hS
    · skip
      refine lv_iconst (v := (-1)) hx hb dX0_believedBehind_16 (by decide) ?_
      -- path 5
      exact hret ((-1)) () _ _ _ _ dX0_believedBehind_17 (rfl) (by clear hret hl hS hD hP hK hA hN hts hx hb hr hml hown hlocks hiX0; grind [jBel]) hP hD hS
abbrev rm_c_X0_lastBehind : Room := { frames := 1, cells := 0, slots := 0, locals := 21 }
set_option maxHeartbeats 400000 in
set_option maxRecDepth 20000 in
theorem c_X0_lastBehind {l : Launch} {D : va_G} {cA : ClassId} {b0 : Nat} {qk : Nat} {qs : Nat} {N : Nat} {pt : Int32} {kf : Nat → Int32} {x : Int32} (h5 : N ≤ 5) : zMi l yX0_lastBehind wsX0_lastBehind rm_c_X0_lastBehind D cA [(b0, .inr (0, [.ref qk, .ref qs, .int (nI N), .int pt])), (qk, .inl (cA, 5, .inl kf))] [.ref b0, .int x] (fun (r : Int32) (_ : Unit) => r = jLast N kf x) (fun (_ : Unit) => [(b0, .inr (0, [.ref qk, .ref qs, .int (nI N), .int pt])), (qk, .inl (cA, 5, .inl kf))]) := by
  refine z_enteri (cc := cX0_lastBehind) (maxL := 2) (ty := .int) (by decide) rfl (Nat.le_of_ble_eq_true rfl) (fun p e s m args below meth c ls A H0 H locs Q hi_ hA hK hP hD hS hl hret => ?_)
  obtain ⟨hx, hb, hr, hml, hown, hts, hlocks, hN⟩ := hi_
  have hl : lv_has ls 2 [(0, .ref b0), (1, .int x)] := hl
  refine lv_aload_n hx hb dX0_lastBehind_0 rfl (lv_at hl 0 rfl) ?_
  refine lv_iload_n hx hb dX0_lastBehind_1 rfl (lv_at hl 1 rfl) ?_
  refine z_bri (z_runV (As := [.int x]) (rest := []) (ci := 0) ⟨hx, hb, hml, hown, hts⟩ (c_X0_kindAt (b0 := b0) (qk := qk) (qs := qs) (N := N) (pt := pt) (kf := kf) (x := x) (by first | assumption | omega) _) (cwV 1 hts gX0_lastBehind_X0_kindAt rfl rfl rfl (by decide +kernel) ⟨Nat.le_of_ble_eq_true rfl, Nat.le_of_ble_eq_true rfl⟩) hK hP hD hN [0, 1] rfl rfl rfl rfl rfl hl.1 rfl (Nat.le_of_ble_eq_true rfl) dX0_lastBehind_2 ⟨Nat.zero_le _, Nat.zero_le _⟩) hP hD hS hA [0, 1] rfl (fun r2 u3 H locs hw1 hP hS => ?_)
  obtain rfl : r2 = jKind N kf x := hw1
  refine lv_iconst (v := 2) hx hb dX0_lastBehind_5 (by decide) ?_
  refine lv_icmp_ne (tgt := 13) hx hb dX0_lastBehind_6 (by decide) (fun c6_4 => ?_) (fun c6_4 => ?_)
  · skip
    refine lv_iload_n hx hb dX0_lastBehind_13 rfl (lv_at hl 1 rfl) ?_
    -- path 1
    exact hret (x) () _ _ _ _ dX0_lastBehind_14 (rfl) (by clear hret hl hS hD hP hK hA hN hts hx hb hr hml hown hlocks ; grind [jLast]) hP hD hS
  · skip
    refine lv_iconst (v := 5) hx hb dX0_lastBehind_9 (by decide) ?_
    refine lv_goto (tgt := 14) hx hb dX0_lastBehind_10 (by decide) ?_
    -- path 2
    exact hret (5) () _ _ _ _ dX0_lastBehind_14 (rfl) (by clear hret hl hS hD hP hK hA hN hts hx hb hr hml hown hlocks ; grind [jLast]) hP hD hS
end
