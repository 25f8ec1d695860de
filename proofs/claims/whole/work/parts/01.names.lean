-- ===== PART A: goes FIRST, ahead of the names: the tables' words, and 'selects' of the private methods out of them =====
/-- a private method of a class that the tables say can be made, by its rows of tables_1 -/
def lw_okq (q : MethodName × Nat) : Prop := (q.1.cls ≠ "java/lang/invoke/MethodHandle" ∧ q.1.cls ≠ "java/lang/invoke/VarHandle") ∧ Cond.instantiable q.1.cls q.2 ∈ tables_1 ∧ Cond.privateMethod q.1 ∈ tables_1 ∧ Cond.instanceMethod q.1 ∈ tables_1
theorem lw_p0 : lw_okq (⟨"ListenWood", "finding", "(I)I"⟩, 7) := ⟨⟨by decide +kernel, by decide +kernel⟩, List.mem_of_getElem? (i := 14) (by decide +kernel), List.mem_of_getElem? (i := 177) (by decide +kernel), List.mem_of_getElem? (i := 178) (by decide +kernel)⟩
theorem lw_p1 : lw_okq (⟨"ListenWood", "isPlank", "(I)Z"⟩, 7) := ⟨⟨by decide +kernel, by decide +kernel⟩, List.mem_of_getElem? (i := 14) (by decide +kernel), List.mem_of_getElem? (i := 214) (by decide +kernel), List.mem_of_getElem? (i := 215) (by decide +kernel)⟩
theorem lw_p2 : lw_okq (⟨"ListenWood$Valley", "othersBeside", "(I)I"⟩, 16) := ⟨⟨by decide +kernel, by decide +kernel⟩, List.mem_of_getElem? (i := 22) (by decide +kernel), List.mem_of_getElem? (i := 232) (by decide +kernel), List.mem_of_getElem? (i := 233) (by decide +kernel)⟩
theorem lw_p3 : lw_okq (⟨"ListenWood$Valley", "grow", "(I)V"⟩, 16) := ⟨⟨by decide +kernel, by decide +kernel⟩, List.mem_of_getElem? (i := 22) (by decide +kernel), List.mem_of_getElem? (i := 287) (by decide +kernel), List.mem_of_getElem? (i := 288) (by decide +kernel)⟩
theorem lw_p4 : lw_okq (⟨"ListenWood$Valley", "offer", "(I)V"⟩, 16) := ⟨⟨by decide +kernel, by decide +kernel⟩, List.mem_of_getElem? (i := 22) (by decide +kernel), List.mem_of_getElem? (i := 298) (by decide +kernel), List.mem_of_getElem? (i := 299) (by decide +kernel)⟩
theorem lw_p5 : lw_okq (⟨"ListenWood", "yearsUntil", "([III)I"⟩, 7) := ⟨⟨by decide +kernel, by decide +kernel⟩, List.mem_of_getElem? (i := 14) (by decide +kernel), List.mem_of_getElem? (i := 346) (by decide +kernel), List.mem_of_getElem? (i := 347) (by decide +kernel)⟩
theorem lw_p6 : lw_okq (⟨"ListenWood", "dearestChoice", "([IIII)I"⟩, 7) := ⟨⟨by decide +kernel, by decide +kernel⟩, List.mem_of_getElem? (i := 14) (by decide +kernel), List.mem_of_getElem? (i := 358) (by decide +kernel), List.mem_of_getElem? (i := 359) (by decide +kernel)⟩
theorem lw_p7 : lw_okq (⟨"ListenWood", "allRingIfMoved", "(III)Z"⟩, 7) := ⟨⟨by decide +kernel, by decide +kernel⟩, List.mem_of_getElem? (i := 14) (by decide +kernel), List.mem_of_getElem? (i := 379) (by decide +kernel), List.mem_of_getElem? (i := 380) (by decide +kernel)⟩
theorem lw_p8 : lw_okq (⟨"ListenWood", "wrongSheetOrPlank", "(II)I"⟩, 7) := ⟨⟨by decide +kernel, by decide +kernel⟩, List.mem_of_getElem? (i := 14) (by decide +kernel), List.mem_of_getElem? (i := 387) (by decide +kernel), List.mem_of_getElem? (i := 388) (by decide +kernel)⟩
theorem lw_p9 : lw_okq (⟨"ListenWood", "wrongSheet", "(I)I"⟩, 7) := ⟨⟨by decide +kernel, by decide +kernel⟩, List.mem_of_getElem? (i := 14) (by decide +kernel), List.mem_of_getElem? (i := 391) (by decide +kernel), List.mem_of_getElem? (i := 392) (by decide +kernel)⟩
theorem lw_p10 : lw_okq (⟨"ListenWood", "choicesAsTold", "([IIILListenWood$Sheet;[I)I"⟩, 7) := ⟨⟨by decide +kernel, by decide +kernel⟩, List.mem_of_getElem? (i := 14) (by decide +kernel), List.mem_of_getElem? (i := 403) (by decide +kernel), List.mem_of_getElem? (i := 404) (by decide +kernel)⟩
theorem lw_p11 : lw_okq (⟨"ListenWood", "goesAsTold", "(LListenWood$Sheet;[II)Z"⟩, 7) := ⟨⟨by decide +kernel, by decide +kernel⟩, List.mem_of_getElem? (i := 14) (by decide +kernel), List.mem_of_getElem? (i := 407) (by decide +kernel), List.mem_of_getElem? (i := 408) (by decide +kernel)⟩
theorem lw_p12 : lw_okq (⟨"ListenWood$Valley", "draw", "()I"⟩, 16) := ⟨⟨by decide +kernel, by decide +kernel⟩, List.mem_of_getElem? (i := 22) (by decide +kernel), List.mem_of_getElem? (i := 423) (by decide +kernel), List.mem_of_getElem? (i := 424) (by decide +kernel)⟩
theorem lw_p13 : lw_okq (⟨"ListenWood", "housesHearing", "(II)I"⟩, 7) := ⟨⟨by decide +kernel, by decide +kernel⟩, List.mem_of_getElem? (i := 14) (by decide +kernel), List.mem_of_getElem? (i := 432) (by decide +kernel), List.mem_of_getElem? (i := 433) (by decide +kernel)⟩
theorem lw_p14 : lw_okq (⟨"ListenWood$Tape", "nextToken", "()V"⟩, 6) := ⟨⟨by decide +kernel, by decide +kernel⟩, List.mem_of_getElem? (i := 98) (by decide +kernel), List.mem_of_getElem? (i := 467) (by decide +kernel), List.mem_of_getElem? (i := 468) (by decide +kernel)⟩
theorem lw_p15 : lw_okq (⟨"ListenWood$Tape", "endOfThose", "(II)I"⟩, 6) := ⟨⟨by decide +kernel, by decide +kernel⟩, List.mem_of_getElem? (i := 98) (by decide +kernel), List.mem_of_getElem? (i := 471) (by decide +kernel), List.mem_of_getElem? (i := 472) (by decide +kernel)⟩
def lw_privs_1 : List (MethodName × Nat) := [(⟨"ListenWood", "finding", "(I)I"⟩, 7), (⟨"ListenWood", "isPlank", "(I)Z"⟩, 7), (⟨"ListenWood$Valley", "othersBeside", "(I)I"⟩, 16), (⟨"ListenWood$Valley", "grow", "(I)V"⟩, 16), (⟨"ListenWood$Valley", "offer", "(I)V"⟩, 16), (⟨"ListenWood", "yearsUntil", "([III)I"⟩, 7), (⟨"ListenWood", "dearestChoice", "([IIII)I"⟩, 7), (⟨"ListenWood", "allRingIfMoved", "(III)Z"⟩, 7), (⟨"ListenWood", "wrongSheetOrPlank", "(II)I"⟩, 7), (⟨"ListenWood", "wrongSheet", "(I)I"⟩, 7), (⟨"ListenWood", "choicesAsTold", "([IIILListenWood$Sheet;[I)I"⟩, 7), (⟨"ListenWood", "goesAsTold", "(LListenWood$Sheet;[II)Z"⟩, 7), (⟨"ListenWood$Valley", "draw", "()I"⟩, 16), (⟨"ListenWood", "housesHearing", "(II)I"⟩, 7), (⟨"ListenWood$Tape", "nextToken", "()V"⟩, 6), (⟨"ListenWood$Tape", "endOfThose", "(II)I"⟩, 6)]
theorem lw_r1 : ∀ q ∈ lw_privs_1, lw_okq q := List.forall_mem_cons.mpr ⟨lw_p0, List.forall_mem_cons.mpr ⟨lw_p1, List.forall_mem_cons.mpr ⟨lw_p2, List.forall_mem_cons.mpr ⟨lw_p3, List.forall_mem_cons.mpr ⟨lw_p4, List.forall_mem_cons.mpr ⟨lw_p5, List.forall_mem_cons.mpr ⟨lw_p6, List.forall_mem_cons.mpr ⟨lw_p7, List.forall_mem_cons.mpr ⟨lw_p8, List.forall_mem_cons.mpr ⟨lw_p9, List.forall_mem_cons.mpr ⟨lw_p10, List.forall_mem_cons.mpr ⟨lw_p11, List.forall_mem_cons.mpr ⟨lw_p12, List.forall_mem_cons.mpr ⟨lw_p13, List.forall_mem_cons.mpr ⟨lw_p14, List.forall_mem_cons.mpr ⟨lw_p15, fun _ h => absurd h List.not_mem_nil⟩⟩⟩⟩⟩⟩⟩⟩⟩⟩⟩⟩⟩⟩⟩⟩
theorem lw_p16 : lw_okq (⟨"ListenWood$Tape", "readItem", "(LListenWood$Valley;)Z"⟩, 6) := ⟨⟨by decide +kernel, by decide +kernel⟩, List.mem_of_getElem? (i := 98) (by decide +kernel), List.mem_of_getElem? (i := 475) (by decide +kernel), List.mem_of_getElem? (i := 476) (by decide +kernel)⟩
theorem lw_p17 : lw_okq (⟨"ListenWood$Tape", "isWord", "(Ljava/lang/String;)Z"⟩, 6) := ⟨⟨by decide +kernel, by decide +kernel⟩, List.mem_of_getElem? (i := 98) (by decide +kernel), List.mem_of_getElem? (i := 489) (by decide +kernel), List.mem_of_getElem? (i := 490) (by decide +kernel)⟩
theorem lw_p18 : lw_okq (⟨"ListenWood$Tape", "readPlank", "(LListenWood$Valley;I)Z"⟩, 6) := ⟨⟨by decide +kernel, by decide +kernel⟩, List.mem_of_getElem? (i := 98) (by decide +kernel), List.mem_of_getElem? (i := 541) (by decide +kernel), List.mem_of_getElem? (i := 542) (by decide +kernel)⟩
theorem lw_p19 : lw_okq (⟨"ListenWood$Tape", "perhaps", "(Ljava/lang/String;II)I"⟩, 6) := ⟨⟨by decide +kernel, by decide +kernel⟩, List.mem_of_getElem? (i := 98) (by decide +kernel), List.mem_of_getElem? (i := 546) (by decide +kernel), List.mem_of_getElem? (i := 547) (by decide +kernel)⟩
theorem lw_p20 : lw_okq (⟨"ListenWood$Tape", "takeNumber", "(II)Z"⟩, 6) := ⟨⟨by decide +kernel, by decide +kernel⟩, List.mem_of_getElem? (i := 98) (by decide +kernel), List.mem_of_getElem? (i := 550) (by decide +kernel), List.mem_of_getElem? (i := 551) (by decide +kernel)⟩
theorem lw_p21 : lw_okq (⟨"ListenWood$Tape", "numberTold", "()I"⟩, 6) := ⟨⟨by decide +kernel, by decide +kernel⟩, List.mem_of_getElem? (i := 98) (by decide +kernel), List.mem_of_getElem? (i := 554) (by decide +kernel), List.mem_of_getElem? (i := 555) (by decide +kernel)⟩
theorem lw_p22 : lw_okq (⟨"ListenWood$Tape", "readHouse", "(LListenWood$Valley;)Z"⟩, 6) := ⟨⟨by decide +kernel, by decide +kernel⟩, List.mem_of_getElem? (i := 98) (by decide +kernel), List.mem_of_getElem? (i := 563) (by decide +kernel), List.mem_of_getElem? (i := 564) (by decide +kernel)⟩
theorem lw_p23 : lw_okq (⟨"ListenWood$Tape", "readEvent", "(LListenWood$Valley;)Z"⟩, 6) := ⟨⟨by decide +kernel, by decide +kernel⟩, List.mem_of_getElem? (i := 98) (by decide +kernel), List.mem_of_getElem? (i := 570) (by decide +kernel), List.mem_of_getElem? (i := 571) (by decide +kernel)⟩
theorem lw_p24 : lw_okq (⟨"ListenWood$Tape", "readEach", "(LListenWood$Valley;)Z"⟩, 6) := ⟨⟨by decide +kernel, by decide +kernel⟩, List.mem_of_getElem? (i := 98) (by decide +kernel), List.mem_of_getElem? (i := 575) (by decide +kernel), List.mem_of_getElem? (i := 576) (by decide +kernel)⟩
theorem lw_p25 : lw_okq (⟨"ListenWoodModel", "becomes", "(II)I"⟩, 17) := ⟨⟨by decide +kernel, by decide +kernel⟩, List.mem_of_getElem? (i := 656) (by decide +kernel), List.mem_of_getElem? (i := 727) (by decide +kernel), List.mem_of_getElem? (i := 728) (by decide +kernel)⟩
theorem lw_p26 : lw_okq (⟨"ListenWoodModel", "finds", "(I)I"⟩, 17) := ⟨⟨by decide +kernel, by decide +kernel⟩, List.mem_of_getElem? (i := 656) (by decide +kernel), List.mem_of_getElem? (i := 731) (by decide +kernel), List.mem_of_getElem? (i := 732) (by decide +kernel)⟩
theorem lw_p27 : lw_okq (⟨"ListenWoodModel", "inside", "(I)I"⟩, 17) := ⟨⟨by decide +kernel, by decide +kernel⟩, List.mem_of_getElem? (i := 656) (by decide +kernel), List.mem_of_getElem? (i := 741) (by decide +kernel), List.mem_of_getElem? (i := 742) (by decide +kernel)⟩
theorem lw_p28 : lw_okq (⟨"ListenWoodModel", "its", "(II)I"⟩, 17) := ⟨⟨by decide +kernel, by decide +kernel⟩, List.mem_of_getElem? (i := 656) (by decide +kernel), List.mem_of_getElem? (i := 745) (by decide +kernel), List.mem_of_getElem? (i := 746) (by decide +kernel)⟩
theorem lw_p29 : lw_okq (⟨"ListenWoodModel", "comes", "(II)I"⟩, 17) := ⟨⟨by decide +kernel, by decide +kernel⟩, List.mem_of_getElem? (i := 656) (by decide +kernel), List.mem_of_getElem? (i := 771) (by decide +kernel), List.mem_of_getElem? (i := 772) (by decide +kernel)⟩
theorem lw_p30 : lw_okq (⟨"ListenWoodModel", "sets", "(III)V"⟩, 17) := ⟨⟨by decide +kernel, by decide +kernel⟩, List.mem_of_getElem? (i := 656) (by decide +kernel), List.mem_of_getElem? (i := 775) (by decide +kernel), List.mem_of_getElem? (i := 776) (by decide +kernel)⟩
theorem lw_p31 : lw_okq (⟨"ListenWoodModel", "isPlank", "(I)Z"⟩, 17) := ⟨⟨by decide +kernel, by decide +kernel⟩, List.mem_of_getElem? (i := 656) (by decide +kernel), List.mem_of_getElem? (i := 783) (by decide +kernel), List.mem_of_getElem? (i := 784) (by decide +kernel)⟩
def lw_privs_2 : List (MethodName × Nat) := [(⟨"ListenWood$Tape", "readItem", "(LListenWood$Valley;)Z"⟩, 6), (⟨"ListenWood$Tape", "isWord", "(Ljava/lang/String;)Z"⟩, 6), (⟨"ListenWood$Tape", "readPlank", "(LListenWood$Valley;I)Z"⟩, 6), (⟨"ListenWood$Tape", "perhaps", "(Ljava/lang/String;II)I"⟩, 6), (⟨"ListenWood$Tape", "takeNumber", "(II)Z"⟩, 6), (⟨"ListenWood$Tape", "numberTold", "()I"⟩, 6), (⟨"ListenWood$Tape", "readHouse", "(LListenWood$Valley;)Z"⟩, 6), (⟨"ListenWood$Tape", "readEvent", "(LListenWood$Valley;)Z"⟩, 6), (⟨"ListenWood$Tape", "readEach", "(LListenWood$Valley;)Z"⟩, 6), (⟨"ListenWoodModel", "becomes", "(II)I"⟩, 17), (⟨"ListenWoodModel", "finds", "(I)I"⟩, 17), (⟨"ListenWoodModel", "inside", "(I)I"⟩, 17), (⟨"ListenWoodModel", "its", "(II)I"⟩, 17), (⟨"ListenWoodModel", "comes", "(II)I"⟩, 17), (⟨"ListenWoodModel", "sets", "(III)V"⟩, 17), (⟨"ListenWoodModel", "isPlank", "(I)Z"⟩, 17)]
theorem lw_r2 : ∀ q ∈ lw_privs_2, lw_okq q := List.forall_mem_cons.mpr ⟨lw_p16, List.forall_mem_cons.mpr ⟨lw_p17, List.forall_mem_cons.mpr ⟨lw_p18, List.forall_mem_cons.mpr ⟨lw_p19, List.forall_mem_cons.mpr ⟨lw_p20, List.forall_mem_cons.mpr ⟨lw_p21, List.forall_mem_cons.mpr ⟨lw_p22, List.forall_mem_cons.mpr ⟨lw_p23, List.forall_mem_cons.mpr ⟨lw_p24, List.forall_mem_cons.mpr ⟨lw_p25, List.forall_mem_cons.mpr ⟨lw_p26, List.forall_mem_cons.mpr ⟨lw_p27, List.forall_mem_cons.mpr ⟨lw_p28, List.forall_mem_cons.mpr ⟨lw_p29, List.forall_mem_cons.mpr ⟨lw_p30, List.forall_mem_cons.mpr ⟨lw_p31, fun _ h => absurd h List.not_mem_nil⟩⟩⟩⟩⟩⟩⟩⟩⟩⟩⟩⟩⟩⟩⟩⟩
theorem lw_p32 : lw_okq (⟨"ListenWoodModel", "hears", "(I)I"⟩, 17) := ⟨⟨by decide +kernel, by decide +kernel⟩, List.mem_of_getElem? (i := 656) (by decide +kernel), List.mem_of_getElem? (i := 788) (by decide +kernel), List.mem_of_getElem? (i := 789) (by decide +kernel)⟩
theorem lw_p33 : lw_okq (⟨"ListenWoodModel", "follows", "(I)I"⟩, 17) := ⟨⟨by decide +kernel, by decide +kernel⟩, List.mem_of_getElem? (i := 656) (by decide +kernel), List.mem_of_getElem? (i := 795) (by decide +kernel), List.mem_of_getElem? (i := 796) (by decide +kernel)⟩
theorem lw_p34 : lw_okq (⟨"ListenWoodModel", "isRinging", "(I)Z"⟩, 17) := ⟨⟨by decide +kernel, by decide +kernel⟩, List.mem_of_getElem? (i := 656) (by decide +kernel), List.mem_of_getElem? (i := 799) (by decide +kernel), List.mem_of_getElem? (i := 800) (by decide +kernel)⟩
theorem lw_p35 : lw_okq (⟨"ListenWoodModel", "splits", "(I)I"⟩, 17) := ⟨⟨by decide +kernel, by decide +kernel⟩, List.mem_of_getElem? (i := 656) (by decide +kernel), List.mem_of_getElem? (i := 803) (by decide +kernel), List.mem_of_getElem? (i := 804) (by decide +kernel)⟩
theorem lw_p36 : lw_okq (⟨"ListenWoodModel", "fetches", "(I)I"⟩, 17) := ⟨⟨by decide +kernel, by decide +kernel⟩, List.mem_of_getElem? (i := 656) (by decide +kernel), List.mem_of_getElem? (i := 807) (by decide +kernel), List.mem_of_getElem? (i := 808) (by decide +kernel)⟩
theorem lw_p37 : lw_okq (⟨"ListenWoodModel", "yearsGo", "(I)V"⟩, 17) := ⟨⟨by decide +kernel, by decide +kernel⟩, List.mem_of_getElem? (i := 656) (by decide +kernel), List.mem_of_getElem? (i := 826) (by decide +kernel), List.mem_of_getElem? (i := 827) (by decide +kernel)⟩
theorem lw_p38 : lw_okq (⟨"ListenWoodModel", "yearGoes", "()V"⟩, 17) := ⟨⟨by decide +kernel, by decide +kernel⟩, List.mem_of_getElem? (i := 656) (by decide +kernel), List.mem_of_getElem? (i := 830) (by decide +kernel), List.mem_of_getElem? (i := 831) (by decide +kernel)⟩
theorem lw_p39 : lw_okq (⟨"ListenWoodModel", "adds", "(IIII)V"⟩, 17) := ⟨⟨by decide +kernel, by decide +kernel⟩, List.mem_of_getElem? (i := 656) (by decide +kernel), List.mem_of_getElem? (i := 834) (by decide +kernel), List.mem_of_getElem? (i := 835) (by decide +kernel)⟩
theorem lw_p40 : lw_okq (⟨"ListenWoodModel", "ringing", "()I"⟩, 17) := ⟨⟨by decide +kernel, by decide +kernel⟩, List.mem_of_getElem? (i := 656) (by decide +kernel), List.mem_of_getElem? (i := 842) (by decide +kernel), List.mem_of_getElem? (i := 843) (by decide +kernel)⟩
theorem lw_p41 : lw_okq (⟨"ListenWoodModel", "sumOf", "(I)I"⟩, 17) := ⟨⟨by decide +kernel, by decide +kernel⟩, List.mem_of_getElem? (i := 656) (by decide +kernel), List.mem_of_getElem? (i := 846) (by decide +kernel), List.mem_of_getElem? (i := 847) (by decide +kernel)⟩
theorem lw_p42 : lw_okq (⟨"ListenWoodModel", "dearest", "()I"⟩, 17) := ⟨⟨by decide +kernel, by decide +kernel⟩, List.mem_of_getElem? (i := 656) (by decide +kernel), List.mem_of_getElem? (i := 850) (by decide +kernel), List.mem_of_getElem? (i := 851) (by decide +kernel)⟩
theorem lw_p43 : lw_okq (⟨"ListenWoodModel", "behind", "(II)I"⟩, 17) := ⟨⟨by decide +kernel, by decide +kernel⟩, List.mem_of_getElem? (i := 656) (by decide +kernel), List.mem_of_getElem? (i := 866) (by decide +kernel), List.mem_of_getElem? (i := 867) (by decide +kernel)⟩
theorem lw_p44 : lw_okq (⟨"ListenWoodModel", "firstOf", "(II)I"⟩, 17) := ⟨⟨by decide +kernel, by decide +kernel⟩, List.mem_of_getElem? (i := 656) (by decide +kernel), List.mem_of_getElem? (i := 879) (by decide +kernel), List.mem_of_getElem? (i := 880) (by decide +kernel)⟩
theorem lw_p45 : lw_okq (⟨"ListenWoodModel", "richest", "(IIII)I"⟩, 17) := ⟨⟨by decide +kernel, by decide +kernel⟩, List.mem_of_getElem? (i := 656) (by decide +kernel), List.mem_of_getElem? (i := 894) (by decide +kernel), List.mem_of_getElem? (i := 895) (by decide +kernel)⟩
theorem lw_p46 : lw_okq (⟨"ListenWoodModel", "whyNot", "(II)I"⟩, 17) := ⟨⟨by decide +kernel, by decide +kernel⟩, List.mem_of_getElem? (i := 656) (by decide +kernel), List.mem_of_getElem? (i := 919) (by decide +kernel), List.mem_of_getElem? (i := 920) (by decide +kernel)⟩
theorem lw_p47 : lw_okq (⟨"ListenWoodModel", "whyNone", "(I)I"⟩, 17) := ⟨⟨by decide +kernel, by decide +kernel⟩, List.mem_of_getElem? (i := 656) (by decide +kernel), List.mem_of_getElem? (i := 923) (by decide +kernel), List.mem_of_getElem? (i := 924) (by decide +kernel)⟩
def lw_privs_3 : List (MethodName × Nat) := [(⟨"ListenWoodModel", "hears", "(I)I"⟩, 17), (⟨"ListenWoodModel", "follows", "(I)I"⟩, 17), (⟨"ListenWoodModel", "isRinging", "(I)Z"⟩, 17), (⟨"ListenWoodModel", "splits", "(I)I"⟩, 17), (⟨"ListenWoodModel", "fetches", "(I)I"⟩, 17), (⟨"ListenWoodModel", "yearsGo", "(I)V"⟩, 17), (⟨"ListenWoodModel", "yearGoes", "()V"⟩, 17), (⟨"ListenWoodModel", "adds", "(IIII)V"⟩, 17), (⟨"ListenWoodModel", "ringing", "()I"⟩, 17), (⟨"ListenWoodModel", "sumOf", "(I)I"⟩, 17), (⟨"ListenWoodModel", "dearest", "()I"⟩, 17), (⟨"ListenWoodModel", "behind", "(II)I"⟩, 17), (⟨"ListenWoodModel", "firstOf", "(II)I"⟩, 17), (⟨"ListenWoodModel", "richest", "(IIII)I"⟩, 17), (⟨"ListenWoodModel", "whyNot", "(II)I"⟩, 17), (⟨"ListenWoodModel", "whyNone", "(I)I"⟩, 17)]
theorem lw_r3 : ∀ q ∈ lw_privs_3, lw_okq q := List.forall_mem_cons.mpr ⟨lw_p32, List.forall_mem_cons.mpr ⟨lw_p33, List.forall_mem_cons.mpr ⟨lw_p34, List.forall_mem_cons.mpr ⟨lw_p35, List.forall_mem_cons.mpr ⟨lw_p36, List.forall_mem_cons.mpr ⟨lw_p37, List.forall_mem_cons.mpr ⟨lw_p38, List.forall_mem_cons.mpr ⟨lw_p39, List.forall_mem_cons.mpr ⟨lw_p40, List.forall_mem_cons.mpr ⟨lw_p41, List.forall_mem_cons.mpr ⟨lw_p42, List.forall_mem_cons.mpr ⟨lw_p43, List.forall_mem_cons.mpr ⟨lw_p44, List.forall_mem_cons.mpr ⟨lw_p45, List.forall_mem_cons.mpr ⟨lw_p46, List.forall_mem_cons.mpr ⟨lw_p47, fun _ h => absurd h List.not_mem_nil⟩⟩⟩⟩⟩⟩⟩⟩⟩⟩⟩⟩⟩⟩⟩⟩
theorem lw_p48 : lw_okq (⟨"ListenWoodModel", "fitting", "(IIIII)I"⟩, 17) := ⟨⟨by decide +kernel, by decide +kernel⟩, List.mem_of_getElem? (i := 656) (by decide +kernel), List.mem_of_getElem? (i := 931) (by decide +kernel), List.mem_of_getElem? (i := 932) (by decide +kernel)⟩
theorem lw_p49 : lw_okq (⟨"ListenWoodModel", "draw", "()I"⟩, 17) := ⟨⟨by decide +kernel, by decide +kernel⟩, List.mem_of_getElem? (i := 656) (by decide +kernel), List.mem_of_getElem? (i := 943) (by decide +kernel), List.mem_of_getElem? (i := 944) (by decide +kernel)⟩
theorem lw_p50 : lw_okq (⟨"ListenWoodModel", "items", "()I"⟩, 17) := ⟨⟨by decide +kernel, by decide +kernel⟩, List.mem_of_getElem? (i := 656) (by decide +kernel), List.mem_of_getElem? (i := 972) (by decide +kernel), List.mem_of_getElem? (i := 973) (by decide +kernel)⟩
theorem lw_p51 : lw_okq (⟨"ListenWoodModel", "next", "()V"⟩, 17) := ⟨⟨by decide +kernel, by decide +kernel⟩, List.mem_of_getElem? (i := 656) (by decide +kernel), List.mem_of_getElem? (i := 976) (by decide +kernel), List.mem_of_getElem? (i := 977) (by decide +kernel)⟩
theorem lw_p52 : lw_okq (⟨"ListenWoodModel", "byteAt", "(I)I"⟩, 17) := ⟨⟨by decide +kernel, by decide +kernel⟩, List.mem_of_getElem? (i := 656) (by decide +kernel), List.mem_of_getElem? (i := 980) (by decide +kernel), List.mem_of_getElem? (i := 981) (by decide +kernel)⟩
theorem lw_p53 : lw_okq (⟨"ListenWoodModel", "item", "()V"⟩, 17) := ⟨⟨by decide +kernel, by decide +kernel⟩, List.mem_of_getElem? (i := 656) (by decide +kernel), List.mem_of_getElem? (i := 995) (by decide +kernel), List.mem_of_getElem? (i := 996) (by decide +kernel)⟩
theorem lw_p54 : lw_okq (⟨"ListenWoodModel", "kindHere", "()I"⟩, 17) := ⟨⟨by decide +kernel, by decide +kernel⟩, List.mem_of_getElem? (i := 656) (by decide +kernel), List.mem_of_getElem? (i := 999) (by decide +kernel), List.mem_of_getElem? (i := 1000) (by decide +kernel)⟩
theorem lw_p55 : lw_okq (⟨"ListenWoodModel", "isWord", "(J)Z"⟩, 17) := ⟨⟨by decide +kernel, by decide +kernel⟩, List.mem_of_getElem? (i := 656) (by decide +kernel), List.mem_of_getElem? (i := 1004) (by decide +kernel), List.mem_of_getElem? (i := 1005) (by decide +kernel)⟩
theorem lw_p56 : lw_okq (⟨"ListenWoodModel", "plankHere", "(I)V"⟩, 17) := ⟨⟨by decide +kernel, by decide +kernel⟩, List.mem_of_getElem? (i := 656) (by decide +kernel), List.mem_of_getElem? (i := 1014) (by decide +kernel), List.mem_of_getElem? (i := 1015) (by decide +kernel)⟩
theorem lw_p57 : lw_okq (⟨"ListenWoodModel", "wrongHere", "()V"⟩, 17) := ⟨⟨by decide +kernel, by decide +kernel⟩, List.mem_of_getElem? (i := 656) (by decide +kernel), List.mem_of_getElem? (i := 1018) (by decide +kernel), List.mem_of_getElem? (i := 1019) (by decide +kernel)⟩
theorem lw_p58 : lw_okq (⟨"ListenWoodModel", "perhaps", "(JII)V"⟩, 17) := ⟨⟨by decide +kernel, by decide +kernel⟩, List.mem_of_getElem? (i := 656) (by decide +kernel), List.mem_of_getElem? (i := 1023) (by decide +kernel), List.mem_of_getElem? (i := 1024) (by decide +kernel)⟩
theorem lw_p59 : lw_okq (⟨"ListenWoodModel", "numberHere", "(II)I"⟩, 17) := ⟨⟨by decide +kernel, by decide +kernel⟩, List.mem_of_getElem? (i := 656) (by decide +kernel), List.mem_of_getElem? (i := 1027) (by decide +kernel), List.mem_of_getElem? (i := 1028) (by decide +kernel)⟩
theorem lw_p60 : lw_okq (⟨"ListenWoodModel", "houseHere", "()V"⟩, 17) := ⟨⟨by decide +kernel, by decide +kernel⟩, List.mem_of_getElem? (i := 656) (by decide +kernel), List.mem_of_getElem? (i := 1034) (by decide +kernel), List.mem_of_getElem? (i := 1035) (by decide +kernel)⟩
theorem lw_p61 : lw_okq (⟨"ListenWoodModel", "eventHere", "()V"⟩, 17) := ⟨⟨by decide +kernel, by decide +kernel⟩, List.mem_of_getElem? (i := 656) (by decide +kernel), List.mem_of_getElem? (i := 1041) (by decide +kernel), List.mem_of_getElem? (i := 1042) (by decide +kernel)⟩
theorem lw_p62 : lw_okq (⟨"ListenWoodModel", "holding", "()I"⟩, 17) := ⟨⟨by decide +kernel, by decide +kernel⟩, List.mem_of_getElem? (i := 656) (by decide +kernel), List.mem_of_getElem? (i := 1094) (by decide +kernel), List.mem_of_getElem? (i := 1095) (by decide +kernel)⟩
def lw_privs_4 : List (MethodName × Nat) := [(⟨"ListenWoodModel", "fitting", "(IIIII)I"⟩, 17), (⟨"ListenWoodModel", "draw", "()I"⟩, 17), (⟨"ListenWoodModel", "items", "()I"⟩, 17), (⟨"ListenWoodModel", "next", "()V"⟩, 17), (⟨"ListenWoodModel", "byteAt", "(I)I"⟩, 17), (⟨"ListenWoodModel", "item", "()V"⟩, 17), (⟨"ListenWoodModel", "kindHere", "()I"⟩, 17), (⟨"ListenWoodModel", "isWord", "(J)Z"⟩, 17), (⟨"ListenWoodModel", "plankHere", "(I)V"⟩, 17), (⟨"ListenWoodModel", "wrongHere", "()V"⟩, 17), (⟨"ListenWoodModel", "perhaps", "(JII)V"⟩, 17), (⟨"ListenWoodModel", "numberHere", "(II)I"⟩, 17), (⟨"ListenWoodModel", "houseHere", "()V"⟩, 17), (⟨"ListenWoodModel", "eventHere", "()V"⟩, 17), (⟨"ListenWoodModel", "holding", "()I"⟩, 17)]
theorem lw_r4 : ∀ q ∈ lw_privs_4, lw_okq q := List.forall_mem_cons.mpr ⟨lw_p48, List.forall_mem_cons.mpr ⟨lw_p49, List.forall_mem_cons.mpr ⟨lw_p50, List.forall_mem_cons.mpr ⟨lw_p51, List.forall_mem_cons.mpr ⟨lw_p52, List.forall_mem_cons.mpr ⟨lw_p53, List.forall_mem_cons.mpr ⟨lw_p54, List.forall_mem_cons.mpr ⟨lw_p55, List.forall_mem_cons.mpr ⟨lw_p56, List.forall_mem_cons.mpr ⟨lw_p57, List.forall_mem_cons.mpr ⟨lw_p58, List.forall_mem_cons.mpr ⟨lw_p59, List.forall_mem_cons.mpr ⟨lw_p60, List.forall_mem_cons.mpr ⟨lw_p61, List.forall_mem_cons.mpr ⟨lw_p62, fun _ h => absurd h List.not_mem_nil⟩⟩⟩⟩⟩⟩⟩⟩⟩⟩⟩⟩⟩⟩⟩
def lw_privs : List (MethodName × Nat) := lw_privs_1 ++ (lw_privs_2 ++ (lw_privs_3 ++ (lw_privs_4)))
def lw_tbl : List Cond := k2_sels lw_privs ++ tables_1
theorem lw_privs_ok : ∀ q ∈ lw_privs, lw_okq q := by
  show ∀ q ∈ lw_privs_1 ++ (lw_privs_2 ++ (lw_privs_3 ++ (lw_privs_4))), lw_okq q
  exact List.forall_mem_append.mpr ⟨lw_r1, List.forall_mem_append.mpr ⟨lw_r2, List.forall_mem_append.mpr ⟨lw_r3, lw_r4⟩⟩⟩

def RX0 : String := "ListenWood$Sheet"
def TX0 : u_T := fun k => match k with
  | 0 => ("ListenWood$Sheet", "bits", "I", false)
  | 1 => ("ListenWood$Sheet", "size", "I", false)
  | _ => ("ListenWood$Sheet", "numbers", "[I", true)
def tyX0 : Nat → FieldType := fun k => match k with
  | 0 => .int
  | 1 => .int
  | _ => .array .int
theorem nmX0 : ∀ a, a < 3 → ∀ b, b < 3 → a ≠ b → (TX0 a).2.1 ≠ (TX0 b).2.1 := by decide +kernel
theorem tyX0_ok : ∀ k, k < 3 → parseFieldDescriptor (TX0 k).2.2.1 = some (tyX0 k) := by decide +kernel
abbrev cX0_init : ByteArray := prog_2_method_1_code
def yX0_init : MethodName := ⟨RX0, "<init>", "()V"⟩
abbrev cX0_isMissing : ByteArray := prog_2_method_2_code
def yX0_isMissing : MethodName := ⟨RX0, "isMissing", "()Z"⟩
abbrev cX0_begin : ByteArray := prog_2_method_3_code
def yX0_begin : MethodName := ⟨RX0, "begin", "(II)V"⟩
abbrev cX0_put : ByteArray := prog_2_method_4_code
def yX0_put : MethodName := ⟨RX0, "put", "(II)V"⟩
abbrev cX0_hasRange : ByteArray := prog_2_method_5_code
def yX0_hasRange : MethodName := ⟨RX0, "hasRange", "(II)Z"⟩
def RX1 : String := "ListenWood$Tape"
def TX1 : u_T := fun k => match k with
  | 0 => ("ListenWood$Tape", "bytes", "[I", true)
  | 1 => ("ListenWood$Tape", "length", "I", false)
  | 2 => ("ListenWood$Tape", "token", "I", false)
  | 3 => ("ListenWood$Tape", "start", "I", false)
  | 4 => ("ListenWood$Tape", "end", "I", false)
  | _ => ("ListenWood$Tape", "told", "I", false)
def tyX1 : Nat → FieldType := fun k => match k with
  | 0 => .array .int
  | 1 => .int
  | 2 => .int
  | 3 => .int
  | 4 => .int
  | _ => .int
theorem nmX1 : ∀ a, a < 6 → ∀ b, b < 6 → a ≠ b → (TX1 a).2.1 ≠ (TX1 b).2.1 := by decide +kernel
theorem tyX1_ok : ∀ k, k < 6 → parseFieldDescriptor (TX1 k).2.2.1 = some (tyX1 k) := by decide +kernel
abbrev cX1_init : ByteArray := prog_3_method_1_code
def yX1_init : MethodName := ⟨RX1, "<init>", "()V"⟩
abbrev cX1_append : ByteArray := prog_3_method_2_code
def yX1_append : MethodName := ⟨RX1, "append", "(I)V"⟩
abbrev cX1_readText : ByteArray := prog_3_method_3_code
def yX1_readText : MethodName := ⟨RX1, "readText", "(LListenWood$Valley;)I"⟩
abbrev cX1_readItem : ByteArray := prog_3_method_4_code
def yX1_readItem : MethodName := ⟨RX1, "readItem", "(LListenWood$Valley;)Z"⟩
abbrev cX1_wordOfKind : ByteArray := prog_3_method_5_code
def yX1_wordOfKind : MethodName := ⟨RX1, "wordOfKind", "(I)Ljava/lang/String;"⟩
abbrev cX1_readPlank : ByteArray := prog_3_method_6_code
def yX1_readPlank : MethodName := ⟨RX1, "readPlank", "(LListenWood$Valley;I)Z"⟩
abbrev cX1_readHouse : ByteArray := prog_3_method_7_code
def yX1_readHouse : MethodName := ⟨RX1, "readHouse", "(LListenWood$Valley;)Z"⟩
abbrev cX1_readEvent : ByteArray := prog_3_method_8_code
def yX1_readEvent : MethodName := ⟨RX1, "readEvent", "(LListenWood$Valley;)Z"⟩
abbrev cX1_readEach : ByteArray := prog_3_method_9_code
def yX1_readEach : MethodName := ⟨RX1, "readEach", "(LListenWood$Valley;)Z"⟩
abbrev cX1_perhaps : ByteArray := prog_3_method_10_code
def yX1_perhaps : MethodName := ⟨RX1, "perhaps", "(Ljava/lang/String;II)I"⟩
abbrev cX1_takeNumber : ByteArray := prog_3_method_11_code
def yX1_takeNumber : MethodName := ⟨RX1, "takeNumber", "(II)Z"⟩
abbrev cX1_numberTold : ByteArray := prog_3_method_12_code
def yX1_numberTold : MethodName := ⟨RX1, "numberTold", "()I"⟩
abbrev cX1_isWord : ByteArray := prog_3_method_13_code
def yX1_isWord : MethodName := ⟨RX1, "isWord", "(Ljava/lang/String;)Z"⟩
abbrev cX1_nextToken : ByteArray := prog_3_method_14_code
def yX1_nextToken : MethodName := ⟨RX1, "nextToken", "()V"⟩
abbrev cX1_endOfThose : ByteArray := prog_3_method_15_code
def yX1_endOfThose : MethodName := ⟨RX1, "endOfThose", "(II)I"⟩
def RX2 : String := "ListenWood$Valley"
def TX2 : u_T := fun k => match k with
  | 0 => ("ListenWood$Valley", "loud", "[I", true)
  | 1 => ("ListenWood$Valley", "mood", "[I", true)
  | 2 => ("ListenWood$Valley", "list", "[I", true)
  | 3 => ("ListenWood$Valley", "each", "I", false)
  | 4 => ("ListenWood$Valley", "gold", "I", false)
  | 5 => ("ListenWood$Valley", "year", "I", false)
  | 6 => ("ListenWood$Valley", "z", "I", false)
  | 7 => ("ListenWood$Valley", "planks", "I", false)
  | 8 => ("ListenWood$Valley", "kind", "[I", true)
  | 9 => ("ListenWood$Valley", "house", "[I", true)
  | 10 => ("ListenWood$Valley", "grain", "[I", true)
  | 11 => ("ListenWood$Valley", "tone", "[I", true)
  | 12 => ("ListenWood$Valley", "cracks", "[I", true)
  | 13 => ("ListenWood$Valley", "age", "[I", true)
  | 14 => ("ListenWood$Valley", "taken", "[I", true)
  | _ => ("ListenWood$Valley", "spots", "[I", true)
def tyX2 : Nat → FieldType := fun k => match k with
  | 0 => .array .int
  | 1 => .array .int
  | 2 => .array .int
  | 3 => .int
  | 4 => .int
  | 5 => .int
  | 6 => .int
  | 7 => .int
  | 8 => .array .int
  | 9 => .array .int
  | 10 => .array .int
  | 11 => .array .int
  | 12 => .array .int
  | 13 => .array .int
  | 14 => .array .int
  | _ => .array .int
theorem nmX2 : ∀ a, a < 16 → ∀ b, b < 16 → a ≠ b → (TX2 a).2.1 ≠ (TX2 b).2.1 := by decide +kernel
theorem tyX2_ok : ∀ k, k < 16 → parseFieldDescriptor (TX2 k).2.2.1 = some (tyX2 k) := by decide +kernel
abbrev cX2_init : ByteArray := prog_4_method_1_code
def yX2_init : MethodName := ⟨RX2, "<init>", "()V"⟩
abbrev cX2_become : ByteArray := prog_4_method_2_code
def yX2_become : MethodName := ⟨RX2, "become", "(LListenWood$Valley;)V"⟩
abbrev cX2_addPlank : ByteArray := prog_4_method_3_code
def yX2_addPlank : MethodName := ⟨RX2, "addPlank", "(IIII)I"⟩
abbrev cX2_rowOf : ByteArray := prog_4_method_4_code
def yX2_rowOf : MethodName := ⟨RX2, "rowOf", "(I)[I"⟩
abbrev cX2_tell : ByteArray := prog_4_method_5_code
def yX2_tell : MethodName := ⟨RX2, "tell", "(II)I"⟩
abbrev cX2_hearing : ByteArray := prog_4_method_6_code
def yX2_hearing : MethodName := ⟨RX2, "hearing", "(I)I"⟩
abbrev cX2_hearingOfMaple : ByteArray := prog_4_method_7_code
def yX2_hearingOfMaple : MethodName := ⟨RX2, "hearingOfMaple", "(I)I"⟩
abbrev cX2_othersBeside : ByteArray := prog_4_method_8_code
def yX2_othersBeside : MethodName := ⟨RX2, "othersBeside", "(I)I"⟩
abbrev cX2_following : ByteArray := prog_4_method_9_code
def yX2_following : MethodName := ⟨RX2, "following", "(I)I"⟩
abbrev cX2_followingOfMaple : ByteArray := prog_4_method_10_code
def yX2_followingOfMaple : MethodName := ⟨RX2, "followingOfMaple", "(I)I"⟩
abbrev cX2_isRinging : ByteArray := prog_4_method_11_code
def yX2_isRinging : MethodName := ⟨RX2, "isRinging", "(I)Z"⟩
abbrev cX2_splitting : ByteArray := prog_4_method_12_code
def yX2_splitting : MethodName := ⟨RX2, "splitting", "(I)I"⟩
abbrev cX2_fetching : ByteArray := prog_4_method_13_code
def yX2_fetching : MethodName := ⟨RX2, "fetching", "(I)I"⟩
abbrev cX2_passYears : ByteArray := prog_4_method_14_code
def yX2_passYears : MethodName := ⟨RX2, "passYears", "(I)V"⟩
abbrev cX2_passYear : ByteArray := prog_4_method_15_code
def yX2_passYear : MethodName := ⟨RX2, "passYear", "()V"⟩
abbrev cX2_grow : ByteArray := prog_4_method_16_code
def yX2_grow : MethodName := ⟨RX2, "grow", "(I)V"⟩
abbrev cX2_makersCome : ByteArray := prog_4_method_17_code
def yX2_makersCome : MethodName := ⟨RX2, "makersCome", "()Z"⟩
abbrev cX2_offer : ByteArray := prog_4_method_18_code
def yX2_offer : MethodName := ⟨RX2, "offer", "(I)V"⟩
abbrev cX2_draw : ByteArray := prog_4_method_19_code
def yX2_draw : MethodName := ⟨RX2, "draw", "()I"⟩
abbrev cX2_feud : ByteArray := prog_4_method_20_code
def yX2_feud : MethodName := ⟨RX2, "feud", "()V"⟩
abbrev cX2_planksIn : ByteArray := prog_4_method_21_code
def yX2_planksIn : MethodName := ⟨RX2, "planksIn", "(I)I"⟩
abbrev cX2_ringing : ByteArray := prog_4_method_22_code
def yX2_ringing : MethodName := ⟨RX2, "ringing", "()I"⟩
abbrev cX2_dearest : ByteArray := prog_4_method_23_code
def yX2_dearest : MethodName := ⟨RX2, "dearest", "()I"⟩
abbrev cX2_sumOf : ByteArray := prog_4_method_24_code
def yX2_sumOf : MethodName := ⟨RX2, "sumOf", "([I)I"⟩
abbrev cX2_spotsHolding : ByteArray := prog_4_method_25_code
def yX2_spotsHolding : MethodName := ⟨RX2, "spotsHolding", "()I"⟩
def RX3 : String := "ListenWood"
def TX3 : u_T := fun k => match k with
  | 0 => ("ListenWood", "valley", "LListenWood$Valley;", true)
  | 1 => ("ListenWood", "trial", "LListenWood$Valley;", true)
  | 2 => ("ListenWood", "kept", "LListenWood$Valley;", true)
  | 3 => ("ListenWood", "isKept", "Z", false)
  | 4 => ("ListenWood", "tape", "LListenWood$Tape;", true)
  | 5 => ("ListenWood", "sheets", "[LListenWood$Sheet;", true)
  | _ => ("ListenWood", "findingsTold", "[I", true)
def tyX3 : Nat → FieldType := fun k => match k with
  | 0 => .object "ListenWood$Valley"
  | 1 => .object "ListenWood$Valley"
  | 2 => .object "ListenWood$Valley"
  | 3 => .boolean
  | 4 => .object "ListenWood$Tape"
  | 5 => .array (.object "ListenWood$Sheet")
  | _ => .array .int
theorem nmX3 : ∀ a, a < 7 → ∀ b, b < 7 → a ≠ b → (TX3 a).2.1 ≠ (TX3 b).2.1 := by decide +kernel
theorem tyX3_ok : ∀ k, k < 7 → parseFieldDescriptor (TX3 k).2.2.1 = some (tyX3 k) := by decide +kernel
abbrev cX3_init : ByteArray := prog_1_method_1_code
def yX3_init : MethodName := ⟨RX3, "<init>", "()V"⟩
abbrev cX3_house : ByteArray := prog_1_method_2_code
def yX3_house : MethodName := ⟨RX3, "house", "(III)I"⟩
abbrev cX3_houseOf : ByteArray := prog_1_method_3_code
def yX3_houseOf : MethodName := ⟨RX3, "houseOf", "(II)I"⟩
abbrev cX3_event : ByteArray := prog_1_method_4_code
def yX3_event : MethodName := ⟨RX3, "event", "(II)I"⟩
abbrev cX3_listed : ByteArray := prog_1_method_5_code
def yX3_listed : MethodName := ⟨RX3, "listed", "(I)I"⟩
abbrev cX3_each : ByteArray := prog_1_method_6_code
def yX3_each : MethodName := ⟨RX3, "each", "(I)I"⟩
abbrev cX3_plank : ByteArray := prog_1_method_7_code
def yX3_plank : MethodName := ⟨RX3, "plank", "(II)I"⟩
abbrev cX3_of : ByteArray := prog_1_method_8_code
def yX3_of : MethodName := ⟨RX3, "of", "(II)I"⟩
abbrev cX3_change : ByteArray := prog_1_method_9_code
def yX3_change : MethodName := ⟨RX3, "change", "(III)I"⟩
abbrev cX3_go : ByteArray := prog_1_method_10_code
def yX3_go : MethodName := ⟨RX3, "go", "(I)I"⟩
abbrev cX3_now : ByteArray := prog_1_method_11_code
def yX3_now : MethodName := ⟨RX3, "now", "(I)I"⟩
abbrev cX3_ahead : ByteArray := prog_1_method_12_code
def yX3_ahead : MethodName := ⟨RX3, "ahead", "(III)I"⟩
abbrev cX3_gold : ByteArray := prog_1_method_13_code
def yX3_gold : MethodName := ⟨RX3, "gold", "(I)I"⟩
abbrev cX3_rings : ByteArray := prog_1_method_14_code
def yX3_rings : MethodName := ⟨RX3, "rings", "(I)I"⟩
abbrev cX3_taken : ByteArray := prog_1_method_15_code
def yX3_taken : MethodName := ⟨RX3, "taken", "(II)I"⟩
abbrev cX3_tuned : ByteArray := prog_1_method_16_code
def yX3_tuned : MethodName := ⟨RX3, "tuned", "(II)I"⟩
abbrev cX3_billet : ByteArray := prog_1_method_17_code
def yX3_billet : MethodName := ⟨RX3, "billet", "(II)I"⟩
abbrev cX3_kindFor : ByteArray := prog_1_method_18_code
def yX3_kindFor : MethodName := ⟨RX3, "kindFor", "(II)I"⟩
abbrev cX3_loudFor : ByteArray := prog_1_method_19_code
def yX3_loudFor : MethodName := ⟨RX3, "loudFor", "(III)I"⟩
abbrev cX3_eachFor : ByteArray := prog_1_method_20_code
def yX3_eachFor : MethodName := ⟨RX3, "eachFor", "(I)I"⟩
abbrev cX3_moveAll : ByteArray := prog_1_method_21_code
def yX3_moveAll : MethodName := ⟨RX3, "moveAll", "(II)I"⟩
abbrev cX3_fits : ByteArray := prog_1_method_22_code
def yX3_fits : MethodName := ⟨RX3, "fits", "(II)I"⟩
abbrev cX3_kinds : ByteArray := prog_1_method_23_code
def yX3_kinds : MethodName := ⟨RX3, "kinds", "(II)I"⟩
abbrev cX3_feuds : ByteArray := prog_1_method_24_code
def yX3_feuds : MethodName := ⟨RX3, "feuds", "(I)I"⟩
abbrev cX3_odds : ByteArray := prog_1_method_25_code
def yX3_odds : MethodName := ⟨RX3, "odds", "(IIII)J"⟩
abbrev cX3_seed : ByteArray := prog_1_method_26_code
def yX3_seed : MethodName := ⟨RX3, "seed", "(I)I"⟩
abbrev cX3_feed : ByteArray := prog_1_method_27_code
def yX3_feed : MethodName := ⟨RX3, "feed", "(II)I"⟩
abbrev cX3_wipe : ByteArray := prog_1_method_28_code
def yX3_wipe : MethodName := ⟨RX3, "wipe", "()I"⟩
abbrev cX3_text : ByteArray := prog_1_method_29_code
def yX3_text : MethodName := ⟨RX3, "text", "()I"⟩
abbrev cX3_hold : ByteArray := prog_1_method_30_code
def yX3_hold : MethodName := ⟨RX3, "hold", "(II)I"⟩
abbrev cX3_as : ByteArray := prog_1_method_31_code
def yX3_as : MethodName := ⟨RX3, "as", "(II)I"⟩
abbrev cX3_sheet : ByteArray := prog_1_method_32_code
def yX3_sheet : MethodName := ⟨RX3, "sheet", "(III)I"⟩
abbrev cX3_write : ByteArray := prog_1_method_33_code
def yX3_write : MethodName := ⟨RX3, "write", "(III)I"⟩
abbrev cX3_copy : ByteArray := prog_1_method_34_code
def yX3_copy : MethodName := ⟨RX3, "copy", "(IIIII)I"⟩
abbrev cX3_load : ByteArray := prog_1_method_35_code
def yX3_load : MethodName := ⟨RX3, "load", "(I)I"⟩
abbrev cX3_judge : ByteArray := prog_1_method_36_code
def yX3_judge : MethodName := ⟨RX3, "judge", "(I)I"⟩
abbrev cX3_image : ByteArray := prog_1_method_37_code
def yX3_image : MethodName := ⟨RX3, "image", "()I"⟩
abbrev cX3_undo : ByteArray := prog_1_method_38_code
def yX3_undo : MethodName := ⟨RX3, "undo", "()I"⟩
abbrev cX3_tear : ByteArray := prog_1_method_39_code
def yX3_tear : MethodName := ⟨RX3, "tear", "()I"⟩
abbrev cX3_count : ByteArray := prog_1_method_40_code
def yX3_count : MethodName := ⟨RX3, "count", "(I)I"⟩
abbrev cX3_status : ByteArray := prog_1_method_41_code
def yX3_status : MethodName := ⟨RX3, "status", "(I)I"⟩
abbrev cX3_finding : ByteArray := prog_1_method_42_code
def yX3_finding : MethodName := ⟨RX3, "finding", "(I)I"⟩
abbrev cX3_within : ByteArray := prog_1_method_43_code
def yX3_within : MethodName := ⟨RX3, "within", "(III)Z"⟩
abbrev cX3_isHouse : ByteArray := prog_1_method_44_code
def yX3_isHouse : MethodName := ⟨RX3, "isHouse", "(I)Z"⟩
abbrev cX3_isSpot : ByteArray := prog_1_method_45_code
def yX3_isSpot : MethodName := ⟨RX3, "isSpot", "(I)Z"⟩
abbrev cX3_isSheet : ByteArray := prog_1_method_46_code
def yX3_isSheet : MethodName := ⟨RX3, "isSheet", "(I)Z"⟩
abbrev cX3_isPlank : ByteArray := prog_1_method_47_code
def yX3_isPlank : MethodName := ⟨RX3, "isPlank", "(I)Z"⟩
abbrev cX3_wrongSheet : ByteArray := prog_1_method_48_code
def yX3_wrongSheet : MethodName := ⟨RX3, "wrongSheet", "(I)I"⟩
abbrev cX3_wrongSheetOrPlank : ByteArray := prog_1_method_49_code
def yX3_wrongSheetOrPlank : MethodName := ⟨RX3, "wrongSheetOrPlank", "(II)I"⟩
abbrev cX3_yearsUntil : ByteArray := prog_1_method_50_code
def yX3_yearsUntil : MethodName := ⟨RX3, "yearsUntil", "([III)I"⟩
abbrev cX3_dearestChoice : ByteArray := prog_1_method_51_code
def yX3_dearestChoice : MethodName := ⟨RX3, "dearestChoice", "([IIII)I"⟩
abbrev cX3_allRingIfMoved : ByteArray := prog_1_method_52_code
def yX3_allRingIfMoved : MethodName := ⟨RX3, "allRingIfMoved", "(III)Z"⟩
abbrev cX3_choicesAsTold : ByteArray := prog_1_method_53_code
def yX3_choicesAsTold : MethodName := ⟨RX3, "choicesAsTold", "([IIILListenWood$Sheet;[I)I"⟩
abbrev cX3_goesAsTold : ByteArray := prog_1_method_54_code
def yX3_goesAsTold : MethodName := ⟨RX3, "goesAsTold", "(LListenWood$Sheet;[II)Z"⟩
abbrev cX3_housesHearing : ByteArray := prog_1_method_55_code
def yX3_housesHearing : MethodName := ⟨RX3, "housesHearing", "(II)I"⟩
abbrev cX3_reduced : ByteArray := prog_1_method_56_code
def yX3_reduced : MethodName := ⟨RX3, "reduced", "(III)I"⟩
abbrev cX3_power : ByteArray := prog_1_method_57_code
def yX3_power : MethodName := ⟨RX3, "power", "(II)J"⟩
abbrev cX3_isKindOrUnder : ByteArray := prog_1_method_58_code
def yX3_isKindOrUnder : MethodName := ⟨RX3, "isKindOrUnder", "(II)Z"⟩
def RX4 : String := "ListenWoodModel"
def TX4 : u_T := fun k => match k with
  | 0 => ("ListenWoodModel", "d", "[I", true)
  | 1 => ("ListenWoodModel", "e", "[I", true)
  | 2 => ("ListenWoodModel", "aside", "[I", true)
  | 3 => ("ListenWoodModel", "kept", "[I", true)
  | 4 => ("ListenWoodModel", "isKept", "Z", false)
  | 5 => ("ListenWoodModel", "found", "[I", true)
  | 6 => ("ListenWoodModel", "tape", "[B", true)
  | 7 => ("ListenWoodModel", "taped", "I", false)
  | 8 => ("ListenWoodModel", "at", "I", false)
  | 9 => ("ListenWoodModel", "sort", "I", false)
  | 10 => ("ListenWoodModel", "from", "I", false)
  | 11 => ("ListenWoodModel", "value", "J", false)
  | 12 => ("ListenWoodModel", "fault", "I", false)
  | 13 => ("ListenWoodModel", "bitsOf", "[I", true)
  | 14 => ("ListenWoodModel", "sizeOf", "[I", true)
  | 15 => ("ListenWoodModel", "number", "[I", true)
  | _ => ("ListenWoodModel", "passing", "[I", true)
def tyX4 : Nat → FieldType := fun k => match k with
  | 0 => .array .int
  | 1 => .array .int
  | 2 => .array .int
  | 3 => .array .int
  | 4 => .boolean
  | 5 => .array .int
  | 6 => .array .byte
  | 7 => .int
  | 8 => .int
  | 9 => .int
  | 10 => .int
  | 11 => .long
  | 12 => .int
  | 13 => .array .int
  | 14 => .array .int
  | 15 => .array .int
  | _ => .array .int
theorem nmX4 : ∀ a, a < 17 → ∀ b, b < 17 → a ≠ b → (TX4 a).2.1 ≠ (TX4 b).2.1 := by decide +kernel
theorem tyX4_ok : ∀ k, k < 17 → parseFieldDescriptor (TX4 k).2.2.1 = some (tyX4 k) := by decide +kernel
abbrev cX4_init : ByteArray := prog_6_method_1_code
def yX4_init : MethodName := ⟨RX4, "<init>", "()V"⟩
abbrev cX4_finds : ByteArray := prog_6_method_3_code
def yX4_finds : MethodName := ⟨RX4, "finds", "(I)I"⟩
abbrev cX4_in : ByteArray := prog_6_method_4_code
def yX4_in : MethodName := ⟨RX4, "in", "(JJJ)Z"⟩
abbrev cX4_held : ByteArray := prog_6_method_5_code
def yX4_held : MethodName := ⟨RX4, "held", "(III)I"⟩
abbrev cX4_copies : ByteArray := prog_6_method_6_code
def yX4_copies : MethodName := ⟨RX4, "copies", "([I[I)V"⟩
abbrev cX4_isPlank : ByteArray := prog_6_method_7_code
def yX4_isPlank : MethodName := ⟨RX4, "isPlank", "(I)Z"⟩
abbrev cX4_isHouse : ByteArray := prog_6_method_8_code
def yX4_isHouse : MethodName := ⟨RX4, "isHouse", "(I)Z"⟩
abbrev cX4_isEvent : ByteArray := prog_6_method_9_code
def yX4_isEvent : MethodName := ⟨RX4, "isEvent", "(I)Z"⟩
abbrev cX4_its : ByteArray := prog_6_method_10_code
def yX4_its : MethodName := ⟨RX4, "its", "(II)I"⟩
abbrev cX4_sets : ByteArray := prog_6_method_11_code
def yX4_sets : MethodName := ⟨RX4, "sets", "(III)V"⟩
abbrev cX4_adds : ByteArray := prog_6_method_12_code
def yX4_adds : MethodName := ⟨RX4, "adds", "(IIII)V"⟩
abbrev cX4_becomes : ByteArray := prog_6_method_13_code
def yX4_becomes : MethodName := ⟨RX4, "becomes", "(II)I"⟩
abbrev cX4_ones : ByteArray := prog_6_method_14_code
def yX4_ones : MethodName := ⟨RX4, "ones", "(I)I"⟩
abbrev cX4_inside : ByteArray := prog_6_method_15_code
def yX4_inside : MethodName := ⟨RX4, "inside", "(I)I"⟩
abbrev cX4_hears : ByteArray := prog_6_method_16_code
def yX4_hears : MethodName := ⟨RX4, "hears", "(I)I"⟩
abbrev cX4_follows : ByteArray := prog_6_method_17_code
def yX4_follows : MethodName := ⟨RX4, "follows", "(I)I"⟩
abbrev cX4_isRinging : ByteArray := prog_6_method_18_code
def yX4_isRinging : MethodName := ⟨RX4, "isRinging", "(I)Z"⟩
abbrev cX4_splits : ByteArray := prog_6_method_19_code
def yX4_splits : MethodName := ⟨RX4, "splits", "(I)I"⟩
abbrev cX4_fetches : ByteArray := prog_6_method_20_code
def yX4_fetches : MethodName := ⟨RX4, "fetches", "(I)I"⟩
abbrev cX4_yearGoes : ByteArray := prog_6_method_21_code
def yX4_yearGoes : MethodName := ⟨RX4, "yearGoes", "()V"⟩
abbrev cX4_yearsGo : ByteArray := prog_6_method_22_code
def yX4_yearsGo : MethodName := ⟨RX4, "yearsGo", "(I)V"⟩
abbrev cX4_sumOf : ByteArray := prog_6_method_23_code
def yX4_sumOf : MethodName := ⟨RX4, "sumOf", "(I)I"⟩
abbrev cX4_ringing : ByteArray := prog_6_method_24_code
def yX4_ringing : MethodName := ⟨RX4, "ringing", "()I"⟩
abbrev cX4_house : ByteArray := prog_6_method_25_code
def yX4_house : MethodName := ⟨RX4, "house", "(III)I"⟩
abbrev cX4_houseOf : ByteArray := prog_6_method_26_code
def yX4_houseOf : MethodName := ⟨RX4, "houseOf", "(II)I"⟩
abbrev cX4_event : ByteArray := prog_6_method_27_code
def yX4_event : MethodName := ⟨RX4, "event", "(II)I"⟩
abbrev cX4_listed : ByteArray := prog_6_method_28_code
def yX4_listed : MethodName := ⟨RX4, "listed", "(I)I"⟩
abbrev cX4_each : ByteArray := prog_6_method_29_code
def yX4_each : MethodName := ⟨RX4, "each", "(I)I"⟩
abbrev cX4_comes : ByteArray := prog_6_method_30_code
def yX4_comes : MethodName := ⟨RX4, "comes", "(II)I"⟩
abbrev cX4_plank : ByteArray := prog_6_method_31_code
def yX4_plank : MethodName := ⟨RX4, "plank", "(II)I"⟩
abbrev cX4_of : ByteArray := prog_6_method_32_code
def yX4_of : MethodName := ⟨RX4, "of", "(II)I"⟩
abbrev cX4_mostOf : ByteArray := prog_6_method_33_code
def yX4_mostOf : MethodName := ⟨RX4, "mostOf", "(I)I"⟩
abbrev cX4_change : ByteArray := prog_6_method_34_code
def yX4_change : MethodName := ⟨RX4, "change", "(III)I"⟩
abbrev cX4_go : ByteArray := prog_6_method_35_code
def yX4_go : MethodName := ⟨RX4, "go", "(I)I"⟩
abbrev cX4_dearest : ByteArray := prog_6_method_36_code
def yX4_dearest : MethodName := ⟨RX4, "dearest", "()I"⟩
abbrev cX4_now : ByteArray := prog_6_method_37_code
def yX4_now : MethodName := ⟨RX4, "now", "(I)I"⟩
abbrev cX4_behind : ByteArray := prog_6_method_38_code
def yX4_behind : MethodName := ⟨RX4, "behind", "(II)I"⟩
abbrev cX4_ahead : ByteArray := prog_6_method_39_code
def yX4_ahead : MethodName := ⟨RX4, "ahead", "(III)I"⟩
abbrev cX4_gold : ByteArray := prog_6_method_40_code
def yX4_gold : MethodName := ⟨RX4, "gold", "(I)I"⟩
abbrev cX4_rings : ByteArray := prog_6_method_41_code
def yX4_rings : MethodName := ⟨RX4, "rings", "(I)I"⟩
abbrev cX4_firstOf : ByteArray := prog_6_method_42_code
def yX4_firstOf : MethodName := ⟨RX4, "firstOf", "(II)I"⟩
abbrev cX4_taken : ByteArray := prog_6_method_43_code
def yX4_taken : MethodName := ⟨RX4, "taken", "(II)I"⟩
abbrev cX4_tuned : ByteArray := prog_6_method_44_code
def yX4_tuned : MethodName := ⟨RX4, "tuned", "(II)I"⟩
abbrev cX4_isShort : ByteArray := prog_6_method_45_code
def yX4_isShort : MethodName := ⟨RX4, "isShort", "(I)Z"⟩
abbrev cX4_richest : ByteArray := prog_6_method_46_code
def yX4_richest : MethodName := ⟨RX4, "richest", "(IIII)I"⟩
abbrev cX4_billet : ByteArray := prog_6_method_47_code
def yX4_billet : MethodName := ⟨RX4, "billet", "(II)I"⟩
abbrev cX4_kindFor : ByteArray := prog_6_method_48_code
def yX4_kindFor : MethodName := ⟨RX4, "kindFor", "(II)I"⟩
abbrev cX4_loudFor : ByteArray := prog_6_method_49_code
def yX4_loudFor : MethodName := ⟨RX4, "loudFor", "(III)I"⟩
abbrev cX4_eachFor : ByteArray := prog_6_method_50_code
def yX4_eachFor : MethodName := ⟨RX4, "eachFor", "(I)I"⟩
abbrev cX4_moveAll : ByteArray := prog_6_method_51_code
def yX4_moveAll : MethodName := ⟨RX4, "moveAll", "(II)I"⟩
abbrev cX4_whyNot : ByteArray := prog_6_method_52_code
def yX4_whyNot : MethodName := ⟨RX4, "whyNot", "(II)I"⟩
abbrev cX4_fitting : ByteArray := prog_6_method_53_code
def yX4_fitting : MethodName := ⟨RX4, "fitting", "(IIIII)I"⟩
abbrev cX4_fits : ByteArray := prog_6_method_54_code
def yX4_fits : MethodName := ⟨RX4, "fits", "(II)I"⟩
abbrev cX4_kinds : ByteArray := prog_6_method_55_code
def yX4_kinds : MethodName := ⟨RX4, "kinds", "(II)I"⟩
abbrev cX4_draw : ByteArray := prog_6_method_56_code
def yX4_draw : MethodName := ⟨RX4, "draw", "()I"⟩
abbrev cX4_feuds : ByteArray := prog_6_method_57_code
def yX4_feuds : MethodName := ⟨RX4, "feuds", "(I)I"⟩
abbrev cX4_common : ByteArray := prog_6_method_58_code
def yX4_common : MethodName := ⟨RX4, "common", "(II)I"⟩
abbrev cX4_odds : ByteArray := prog_6_method_59_code
def yX4_odds : MethodName := ⟨RX4, "odds", "(IIII)J"⟩
abbrev cX4_seed : ByteArray := prog_6_method_60_code
def yX4_seed : MethodName := ⟨RX4, "seed", "(I)I"⟩
abbrev cX4_feed : ByteArray := prog_6_method_61_code
def yX4_feed : MethodName := ⟨RX4, "feed", "(II)I"⟩
abbrev cX4_wipe : ByteArray := prog_6_method_62_code
def yX4_wipe : MethodName := ⟨RX4, "wipe", "()I"⟩
abbrev cX4_letter : ByteArray := prog_6_method_63_code
def yX4_letter : MethodName := ⟨RX4, "letter", "(I)I"⟩
abbrev cX4_isDigit : ByteArray := prog_6_method_64_code
def yX4_isDigit : MethodName := ⟨RX4, "isDigit", "(I)Z"⟩
abbrev cX4_byteAt : ByteArray := prog_6_method_65_code
def yX4_byteAt : MethodName := ⟨RX4, "byteAt", "(I)I"⟩
abbrev cX4_next : ByteArray := prog_6_method_66_code
def yX4_next : MethodName := ⟨RX4, "next", "()V"⟩
abbrev cX4_wrongHere : ByteArray := prog_6_method_67_code
def yX4_wrongHere : MethodName := ⟨RX4, "wrongHere", "()V"⟩
abbrev cX4_isWord : ByteArray := prog_6_method_68_code
def yX4_isWord : MethodName := ⟨RX4, "isWord", "(J)Z"⟩
abbrev cX4_kindHere : ByteArray := prog_6_method_69_code
def yX4_kindHere : MethodName := ⟨RX4, "kindHere", "()I"⟩
abbrev cX4_numberHere : ByteArray := prog_6_method_70_code
def yX4_numberHere : MethodName := ⟨RX4, "numberHere", "(II)I"⟩
abbrev cX4_perhaps : ByteArray := prog_6_method_71_code
def yX4_perhaps : MethodName := ⟨RX4, "perhaps", "(JII)V"⟩
abbrev cX4_plankHere : ByteArray := prog_6_method_72_code
def yX4_plankHere : MethodName := ⟨RX4, "plankHere", "(I)V"⟩
abbrev cX4_houseHere : ByteArray := prog_6_method_73_code
def yX4_houseHere : MethodName := ⟨RX4, "houseHere", "()V"⟩
abbrev cX4_eventHere : ByteArray := prog_6_method_74_code
def yX4_eventHere : MethodName := ⟨RX4, "eventHere", "()V"⟩
abbrev cX4_item : ByteArray := prog_6_method_75_code
def yX4_item : MethodName := ⟨RX4, "item", "()V"⟩
abbrev cX4_items : ByteArray := prog_6_method_76_code
def yX4_items : MethodName := ⟨RX4, "items", "()I"⟩
abbrev cX4_text : ByteArray := prog_6_method_77_code
def yX4_text : MethodName := ⟨RX4, "text", "()I"⟩
abbrev cX4_hold : ByteArray := prog_6_method_78_code
def yX4_hold : MethodName := ⟨RX4, "hold", "(II)I"⟩
abbrev cX4_above : ByteArray := prog_6_method_79_code
def yX4_above : MethodName := ⟨RX4, "above", "(I)I"⟩
abbrev cX4_as : ByteArray := prog_6_method_80_code
def yX4_as : MethodName := ⟨RX4, "as", "(II)I"⟩
abbrev cX4_isSheet : ByteArray := prog_6_method_81_code
def yX4_isSheet : MethodName := ⟨RX4, "isSheet", "(I)Z"⟩
abbrev cX4_sheet : ByteArray := prog_6_method_82_code
def yX4_sheet : MethodName := ⟨RX4, "sheet", "(III)I"⟩
abbrev cX4_whyNone : ByteArray := prog_6_method_83_code
def yX4_whyNone : MethodName := ⟨RX4, "whyNone", "(I)I"⟩
abbrev cX4_write : ByteArray := prog_6_method_84_code
def yX4_write : MethodName := ⟨RX4, "write", "(III)I"⟩
abbrev cX4_copy : ByteArray := prog_6_method_85_code
def yX4_copy : MethodName := ⟨RX4, "copy", "(IIIII)I"⟩
abbrev cX4_load : ByteArray := prog_6_method_86_code
def yX4_load : MethodName := ⟨RX4, "load", "(I)I"⟩
abbrev cX4_judge : ByteArray := prog_6_method_87_code
def yX4_judge : MethodName := ⟨RX4, "judge", "(I)I"⟩
abbrev cX4_image : ByteArray := prog_6_method_88_code
def yX4_image : MethodName := ⟨RX4, "image", "()I"⟩
abbrev cX4_undo : ByteArray := prog_6_method_89_code
def yX4_undo : MethodName := ⟨RX4, "undo", "()I"⟩
abbrev cX4_tear : ByteArray := prog_6_method_90_code
def yX4_tear : MethodName := ⟨RX4, "tear", "()I"⟩
abbrev cX4_holding : ByteArray := prog_6_method_91_code
def yX4_holding : MethodName := ⟨RX4, "holding", "()I"⟩
abbrev cX4_count : ByteArray := prog_6_method_92_code
def yX4_count : MethodName := ⟨RX4, "count", "(I)I"⟩
abbrev cX4_status : ByteArray := prog_6_method_93_code
def yX4_status : MethodName := ⟨RX4, "status", "(I)I"⟩
def RJ6 : String := "java/lang/Integer"
abbrev cJ6_bitCount_0f7a4 : ByteArray := prog_7_method_49_code
def yJ6_bitCount_0f7a4 : MethodName := ⟨RJ6, "bitCount", "(I)I"⟩
def RJ9 : String := "java/lang/Math"
abbrev cJ9_max_7cf53 : ByteArray := prog_8_method_65_code
def yJ9_max_7cf53 : MethodName := ⟨RJ9, "max", "(II)I"⟩
abbrev cJ9_min_7cf53 : ByteArray := prog_8_method_69_code
def yJ9_min_7cf53 : MethodName := ⟨RJ9, "min", "(II)I"⟩
def RJ0 : String := "java/lang/String"
abbrev cJ0_length_8abf5 : ByteArray := prog_9_method_54_code
def yJ0_length_8abf5 : MethodName := ⟨RJ0, "length", "()I"⟩
abbrev cJ0_charAt_5068e : ByteArray := prog_9_method_56_code
def yJ0_charAt_5068e : MethodName := ⟨RJ0, "charAt", "(I)C"⟩
abbrev cJ0_coder_7d493 : ByteArray := prog_9_method_152_code
def yJ0_coder_7d493 : MethodName := ⟨RJ0, "coder", "()B"⟩
abbrev cJ0_isLatin1_aae02 : ByteArray := prog_9_method_154_code
def yJ0_isLatin1_aae02 : MethodName := ⟨RJ0, "isLatin1", "()Z"⟩
abbrev cJ0_checkIndex_df160 : ByteArray := prog_9_method_155_code
def yJ0_checkIndex_df160 : MethodName := ⟨RJ0, "checkIndex", "(II)V"⟩
def RJ1 : String := "java/lang/StringLatin1"
abbrev cJ1_charAt_3b067 : ByteArray := prog_10_method_2_code
def yJ1_charAt_3b067 : MethodName := ⟨RJ1, "charAt", "([BI)C"⟩
def RJ2 : String := "java/lang/StringUTF16"
abbrev cJ2_getChar_3b067 : ByteArray := prog_11_method_5_code
def yJ2_getChar_3b067 : MethodName := ⟨RJ2, "getChar", "([BI)C"⟩
abbrev cJ2_length_9d52b : ByteArray := prog_11_method_6_code
def yJ2_length_9d52b : MethodName := ⟨RJ2, "length", "([B)I"⟩
abbrev cJ2_charAt_3b067 : ByteArray := prog_11_method_83_code
def yJ2_charAt_3b067 : MethodName := ⟨RJ2, "charAt", "([BI)C"⟩
abbrev cJ2_checkIndex_2214a : ByteArray := prog_11_method_91_code
def yJ2_checkIndex_2214a : MethodName := ⟨RJ2, "checkIndex", "(I[B)V"⟩
def RJ10 : String := "java/lang/System"
def RJ3 : String := "jdk/internal/util/Preconditions"
abbrev cJ3_checkIndex_8e157 : ByteArray := prog_13_method_11_code
def yJ3_checkIndex_8e157 : MethodName := ⟨RJ3, "checkIndex", "(IILjava/util/function/BiFunction;)I"⟩
def RL : String := "ListenWoodLaw"
abbrev cL_law : ByteArray := code
def yL_law : MethodName := ⟨RL, "law", "([I)Z"⟩
