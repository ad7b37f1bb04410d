/-- a private method of a class that the tables say can be made, by its rows of tables_1 -/
def lw_okq (q : MethodName × Nat) : Prop := (q.1.cls ≠ "java/lang/invoke/MethodHandle" ∧ q.1.cls ≠ "java/lang/invoke/VarHandle") ∧ Cond.instantiable q.1.cls q.2 ∈ tables_1 ∧ Cond.privateMethod q.1 ∈ tables_1 ∧ Cond.instanceMethod q.1 ∈ tables_1
theorem lw_p0 : lw_okq (⟨"SlotStart$Bus", "isSignGiven", "()Z"⟩, 6) := ⟨⟨by decide +kernel, by decide +kernel⟩, List.mem_of_getElem? (i := 19) (by decide +kernel), List.mem_of_getElem? (i := 293) (by decide +kernel), List.mem_of_getElem? (i := 294) (by decide +kernel)⟩
theorem lw_p1 : lw_okq (⟨"SlotStart$Bus", "chooseSenders", "()V"⟩, 6) := ⟨⟨by decide +kernel, by decide +kernel⟩, List.mem_of_getElem? (i := 19) (by decide +kernel), List.mem_of_getElem? (i := 301) (by decide +kernel), List.mem_of_getElem? (i := 302) (by decide +kernel)⟩
theorem lw_p2 : lw_okq (⟨"SlotStart$Bus", "thatGiveWay", "(I)I"⟩, 6) := ⟨⟨by decide +kernel, by decide +kernel⟩, List.mem_of_getElem? (i := 19) (by decide +kernel), List.mem_of_getElem? (i := 309) (by decide +kernel), List.mem_of_getElem? (i := 310) (by decide +kernel)⟩
theorem lw_p3 : lw_okq (⟨"SlotStart$Bus", "givesWay", "(LSlotStart$Node;II)Z"⟩, 6) := ⟨⟨by decide +kernel, by decide +kernel⟩, List.mem_of_getElem? (i := 19) (by decide +kernel), List.mem_of_getElem? (i := 320) (by decide +kernel), List.mem_of_getElem? (i := 321) (by decide +kernel)⟩
theorem lw_p4 : lw_okq (⟨"SlotStart$Bus", "listen", "()V"⟩, 6) := ⟨⟨by decide +kernel, by decide +kernel⟩, List.mem_of_getElem? (i := 19) (by decide +kernel), List.mem_of_getElem? (i := 325) (by decide +kernel), List.mem_of_getElem? (i := 326) (by decide +kernel)⟩
theorem lw_p5 : lw_okq (⟨"SlotStart$Bus", "hearOthers", "(LSlotStart$Node;I)V"⟩, 6) := ⟨⟨by decide +kernel, by decide +kernel⟩, List.mem_of_getElem? (i := 19) (by decide +kernel), List.mem_of_getElem? (i := 337) (by decide +kernel), List.mem_of_getElem? (i := 338) (by decide +kernel)⟩
theorem lw_p6 : lw_okq (⟨"SlotStart$Bus", "settle", "(Z)V"⟩, 6) := ⟨⟨by decide +kernel, by decide +kernel⟩, List.mem_of_getElem? (i := 19) (by decide +kernel), List.mem_of_getElem? (i := 346) (by decide +kernel), List.mem_of_getElem? (i := 347) (by decide +kernel)⟩
theorem lw_p7 : lw_okq (⟨"SlotStart$Node", "settleListening", "(Z)V"⟩, 16) := ⟨⟨by decide +kernel, by decide +kernel⟩, List.mem_of_getElem? (i := 66) (by decide +kernel), List.mem_of_getElem? (i := 358) (by decide +kernel), List.mem_of_getElem? (i := 359) (by decide +kernel)⟩
theorem lw_p8 : lw_okq (⟨"SlotStart$Node", "followGuide", "()V"⟩, 16) := ⟨⟨by decide +kernel, by decide +kernel⟩, List.mem_of_getElem? (i := 66) (by decide +kernel), List.mem_of_getElem? (i := 362) (by decide +kernel), List.mem_of_getElem? (i := 363) (by decide +kernel)⟩
theorem lw_p9 : lw_okq (⟨"SlotStart$Node", "settleLeading", "()V"⟩, 16) := ⟨⟨by decide +kernel, by decide +kernel⟩, List.mem_of_getElem? (i := 66) (by decide +kernel), List.mem_of_getElem? (i := 366) (by decide +kernel), List.mem_of_getElem? (i := 367) (by decide +kernel)⟩
theorem lw_p10 : lw_okq (⟨"SlotStart$Node", "settleJoining", "()V"⟩, 16) := ⟨⟨by decide +kernel, by decide +kernel⟩, List.mem_of_getElem? (i := 66) (by decide +kernel), List.mem_of_getElem? (i := 370) (by decide +kernel), List.mem_of_getElem? (i := 371) (by decide +kernel)⟩
theorem lw_p11 : lw_okq (⟨"SlotStart$Bus", "moveClocks", "()V"⟩, 6) := ⟨⟨by decide +kernel, by decide +kernel⟩, List.mem_of_getElem? (i := 19) (by decide +kernel), List.mem_of_getElem? (i := 408) (by decide +kernel), List.mem_of_getElem? (i := 409) (by decide +kernel)⟩
theorem lw_p12 : lw_okq (⟨"SlotStart", "staysTogether", "(III)Z"⟩, 5) := ⟨⟨by decide +kernel, by decide +kernel⟩, List.mem_of_getElem? (i := 11) (by decide +kernel), List.mem_of_getElem? (i := 484) (by decide +kernel), List.mem_of_getElem? (i := 485) (by decide +kernel)⟩
theorem lw_p13 : lw_okq (⟨"SlotStartModel", "is", "(II)Z"⟩, 14) := ⟨⟨by decide +kernel, by decide +kernel⟩, List.mem_of_getElem? (i := 500) (by decide +kernel), List.mem_of_getElem? (i := 560) (by decide +kernel), List.mem_of_getElem? (i := 561) (by decide +kernel)⟩
theorem lw_p14 : lw_okq (⟨"SlotStartModel", "isTaken", "(II)Z"⟩, 14) := ⟨⟨by decide +kernel, by decide +kernel⟩, List.mem_of_getElem? (i := 500) (by decide +kernel), List.mem_of_getElem? (i := 564) (by decide +kernel), List.mem_of_getElem? (i := 565) (by decide +kernel)⟩
theorem lw_p15 : lw_okq (⟨"SlotStartModel", "isOut", "(I)Z"⟩, 14) := ⟨⟨by decide +kernel, by decide +kernel⟩, List.mem_of_getElem? (i := 500) (by decide +kernel), List.mem_of_getElem? (i := 580) (by decide +kernel), List.mem_of_getElem? (i := 581) (by decide +kernel)⟩
def lw_privs_1 : List (MethodName × Nat) := [(⟨"SlotStart$Bus", "isSignGiven", "()Z"⟩, 6), (⟨"SlotStart$Bus", "chooseSenders", "()V"⟩, 6), (⟨"SlotStart$Bus", "thatGiveWay", "(I)I"⟩, 6), (⟨"SlotStart$Bus", "givesWay", "(LSlotStart$Node;II)Z"⟩, 6), (⟨"SlotStart$Bus", "listen", "()V"⟩, 6), (⟨"SlotStart$Bus", "hearOthers", "(LSlotStart$Node;I)V"⟩, 6), (⟨"SlotStart$Bus", "settle", "(Z)V"⟩, 6), (⟨"SlotStart$Node", "settleListening", "(Z)V"⟩, 16), (⟨"SlotStart$Node", "followGuide", "()V"⟩, 16), (⟨"SlotStart$Node", "settleLeading", "()V"⟩, 16), (⟨"SlotStart$Node", "settleJoining", "()V"⟩, 16), (⟨"SlotStart$Bus", "moveClocks", "()V"⟩, 6), (⟨"SlotStart", "staysTogether", "(III)Z"⟩, 5), (⟨"SlotStartModel", "is", "(II)Z"⟩, 14), (⟨"SlotStartModel", "isTaken", "(II)Z"⟩, 14), (⟨"SlotStartModel", "isOut", "(I)Z"⟩, 14)]
theorem lw_r1 : ∀ q ∈ lw_privs_1, lw_okq q := List.forall_mem_cons.mpr ⟨lw_p0, List.forall_mem_cons.mpr ⟨lw_p1, List.forall_mem_cons.mpr ⟨lw_p2, List.forall_mem_cons.mpr ⟨lw_p3, List.forall_mem_cons.mpr ⟨lw_p4, List.forall_mem_cons.mpr ⟨lw_p5, List.forall_mem_cons.mpr ⟨lw_p6, List.forall_mem_cons.mpr ⟨lw_p7, List.forall_mem_cons.mpr ⟨lw_p8, List.forall_mem_cons.mpr ⟨lw_p9, List.forall_mem_cons.mpr ⟨lw_p10, List.forall_mem_cons.mpr ⟨lw_p11, List.forall_mem_cons.mpr ⟨lw_p12, List.forall_mem_cons.mpr ⟨lw_p13, List.forall_mem_cons.mpr ⟨lw_p14, List.forall_mem_cons.mpr ⟨lw_p15, fun _ h => absurd h List.not_mem_nil⟩⟩⟩⟩⟩⟩⟩⟩⟩⟩⟩⟩⟩⟩⟩⟩
theorem lw_p16 : lw_okq (⟨"SlotStartModel", "begin", "(II)V"⟩, 14) := ⟨⟨by decide +kernel, by decide +kernel⟩, List.mem_of_getElem? (i := 500) (by decide +kernel), List.mem_of_getElem? (i := 584) (by decide +kernel), List.mem_of_getElem? (i := 585) (by decide +kernel)⟩
theorem lw_p17 : lw_okq (⟨"SlotStartModel", "cycle", "()V"⟩, 14) := ⟨⟨by decide +kernel, by decide +kernel⟩, List.mem_of_getElem? (i := 500) (by decide +kernel), List.mem_of_getElem? (i := 596) (by decide +kernel), List.mem_of_getElem? (i := 597) (by decide +kernel)⟩
theorem lw_p18 : lw_okq (⟨"SlotStartModel", "laySenders", "()V"⟩, 14) := ⟨⟨by decide +kernel, by decide +kernel⟩, List.mem_of_getElem? (i := 500) (by decide +kernel), List.mem_of_getElem? (i := 600) (by decide +kernel), List.mem_of_getElem? (i := 601) (by decide +kernel)⟩
theorem lw_p19 : lw_okq (⟨"SlotStartModel", "isFirst", "(I)Z"⟩, 14) := ⟨⟨by decide +kernel, by decide +kernel⟩, List.mem_of_getElem? (i := 500) (by decide +kernel), List.mem_of_getElem? (i := 604) (by decide +kernel), List.mem_of_getElem? (i := 605) (by decide +kernel)⟩
theorem lw_p20 : lw_okq (⟨"SlotStartModel", "givesWay", "(I)Z"⟩, 14) := ⟨⟨by decide +kernel, by decide +kernel⟩, List.mem_of_getElem? (i := 500) (by decide +kernel), List.mem_of_getElem? (i := 608) (by decide +kernel), List.mem_of_getElem? (i := 609) (by decide +kernel)⟩
theorem lw_p21 : lw_okq (⟨"SlotStartModel", "hear", "(I)V"⟩, 14) := ⟨⟨by decide +kernel, by decide +kernel⟩, List.mem_of_getElem? (i := 500) (by decide +kernel), List.mem_of_getElem? (i := 612) (by decide +kernel), List.mem_of_getElem? (i := 613) (by decide +kernel)⟩
theorem lw_p22 : lw_okq (⟨"SlotStartModel", "end", "(I)V"⟩, 14) := ⟨⟨by decide +kernel, by decide +kernel⟩, List.mem_of_getElem? (i := 500) (by decide +kernel), List.mem_of_getElem? (i := 616) (by decide +kernel), List.mem_of_getElem? (i := 617) (by decide +kernel)⟩
theorem lw_p23 : lw_okq (⟨"SlotStartModel", "keepEvent", "(I)V"⟩, 14) := ⟨⟨by decide +kernel, by decide +kernel⟩, List.mem_of_getElem? (i := 500) (by decide +kernel), List.mem_of_getElem? (i := 620) (by decide +kernel), List.mem_of_getElem? (i := 621) (by decide +kernel)⟩
theorem lw_p24 : lw_okq (⟨"SlotStartModel", "listen", "(I)V"⟩, 14) := ⟨⟨by decide +kernel, by decide +kernel⟩, List.mem_of_getElem? (i := 500) (by decide +kernel), List.mem_of_getElem? (i := 624) (by decide +kernel), List.mem_of_getElem? (i := 625) (by decide +kernel)⟩
theorem lw_p25 : lw_okq (⟨"SlotStartModel", "otherSign", "(I)Z"⟩, 14) := ⟨⟨by decide +kernel, by decide +kernel⟩, List.mem_of_getElem? (i := 500) (by decide +kernel), List.mem_of_getElem? (i := 628) (by decide +kernel), List.mem_of_getElem? (i := 629) (by decide +kernel)⟩
theorem lw_p26 : lw_okq (⟨"SlotStartModel", "follow", "(II)V"⟩, 14) := ⟨⟨by decide +kernel, by decide +kernel⟩, List.mem_of_getElem? (i := 500) (by decide +kernel), List.mem_of_getElem? (i := 632) (by decide +kernel), List.mem_of_getElem? (i := 633) (by decide +kernel)⟩
theorem lw_p27 : lw_okq (⟨"SlotStartModel", "become", "(II)V"⟩, 14) := ⟨⟨by decide +kernel, by decide +kernel⟩, List.mem_of_getElem? (i := 500) (by decide +kernel), List.mem_of_getElem? (i := 636) (by decide +kernel), List.mem_of_getElem? (i := 637) (by decide +kernel)⟩
theorem lw_p28 : lw_okq (⟨"SlotStartModel", "lead", "(I)V"⟩, 14) := ⟨⟨by decide +kernel, by decide +kernel⟩, List.mem_of_getElem? (i := 500) (by decide +kernel), List.mem_of_getElem? (i := 640) (by decide +kernel), List.mem_of_getElem? (i := 641) (by decide +kernel)⟩
theorem lw_p29 : lw_okq (⟨"SlotStartModel", "join", "(I)V"⟩, 14) := ⟨⟨by decide +kernel, by decide +kernel⟩, List.mem_of_getElem? (i := 500) (by decide +kernel), List.mem_of_getElem? (i := 644) (by decide +kernel), List.mem_of_getElem? (i := 645) (by decide +kernel)⟩
theorem lw_p30 : lw_okq (⟨"SlotStartModel", "keepOn", "(I)V"⟩, 14) := ⟨⟨by decide +kernel, by decide +kernel⟩, List.mem_of_getElem? (i := 500) (by decide +kernel), List.mem_of_getElem? (i := 648) (by decide +kernel), List.mem_of_getElem? (i := 649) (by decide +kernel)⟩
theorem lw_p31 : lw_okq (⟨"SlotStartModel", "correct", "(I)V"⟩, 14) := ⟨⟨by decide +kernel, by decide +kernel⟩, List.mem_of_getElem? (i := 500) (by decide +kernel), List.mem_of_getElem? (i := 652) (by decide +kernel), List.mem_of_getElem? (i := 653) (by decide +kernel)⟩
def lw_privs_2 : List (MethodName × Nat) := [(⟨"SlotStartModel", "begin", "(II)V"⟩, 14), (⟨"SlotStartModel", "cycle", "()V"⟩, 14), (⟨"SlotStartModel", "laySenders", "()V"⟩, 14), (⟨"SlotStartModel", "isFirst", "(I)Z"⟩, 14), (⟨"SlotStartModel", "givesWay", "(I)Z"⟩, 14), (⟨"SlotStartModel", "hear", "(I)V"⟩, 14), (⟨"SlotStartModel", "end", "(I)V"⟩, 14), (⟨"SlotStartModel", "keepEvent", "(I)V"⟩, 14), (⟨"SlotStartModel", "listen", "(I)V"⟩, 14), (⟨"SlotStartModel", "otherSign", "(I)Z"⟩, 14), (⟨"SlotStartModel", "follow", "(II)V"⟩, 14), (⟨"SlotStartModel", "become", "(II)V"⟩, 14), (⟨"SlotStartModel", "lead", "(I)V"⟩, 14), (⟨"SlotStartModel", "join", "(I)V"⟩, 14), (⟨"SlotStartModel", "keepOn", "(I)V"⟩, 14), (⟨"SlotStartModel", "correct", "(I)V"⟩, 14)]
theorem lw_r2 : ∀ q ∈ lw_privs_2, lw_okq q := List.forall_mem_cons.mpr ⟨lw_p16, List.forall_mem_cons.mpr ⟨lw_p17, List.forall_mem_cons.mpr ⟨lw_p18, List.forall_mem_cons.mpr ⟨lw_p19, List.forall_mem_cons.mpr ⟨lw_p20, List.forall_mem_cons.mpr ⟨lw_p21, List.forall_mem_cons.mpr ⟨lw_p22, List.forall_mem_cons.mpr ⟨lw_p23, List.forall_mem_cons.mpr ⟨lw_p24, List.forall_mem_cons.mpr ⟨lw_p25, List.forall_mem_cons.mpr ⟨lw_p26, List.forall_mem_cons.mpr ⟨lw_p27, List.forall_mem_cons.mpr ⟨lw_p28, List.forall_mem_cons.mpr ⟨lw_p29, List.forall_mem_cons.mpr ⟨lw_p30, List.forall_mem_cons.mpr ⟨lw_p31, fun _ h => absurd h List.not_mem_nil⟩⟩⟩⟩⟩⟩⟩⟩⟩⟩⟩⟩⟩⟩⟩⟩
theorem lw_p32 : lw_okq (⟨"SlotStartModel", "trimSeen", "(I)I"⟩, 14) := ⟨⟨by decide +kernel, by decide +kernel⟩, List.mem_of_getElem? (i := 500) (by decide +kernel), List.mem_of_getElem? (i := 656) (by decide +kernel), List.mem_of_getElem? (i := 657) (by decide +kernel)⟩
theorem lw_p33 : lw_okq (⟨"SlotStartModel", "lay", "(I)V"⟩, 14) := ⟨⟨by decide +kernel, by decide +kernel⟩, List.mem_of_getElem? (i := 500) (by decide +kernel), List.mem_of_getElem? (i := 660) (by decide +kernel), List.mem_of_getElem? (i := 661) (by decide +kernel)⟩
theorem lw_p34 : lw_okq (⟨"SlotStartModel", "trimmed", "()I"⟩, 14) := ⟨⟨by decide +kernel, by decide +kernel⟩, List.mem_of_getElem? (i := 500) (by decide +kernel), List.mem_of_getElem? (i := 664) (by decide +kernel), List.mem_of_getElem? (i := 665) (by decide +kernel)⟩
theorem lw_p35 : lw_okq (⟨"SlotStartModel", "trimChanged", "(I)I"⟩, 14) := ⟨⟨by decide +kernel, by decide +kernel⟩, List.mem_of_getElem? (i := 500) (by decide +kernel), List.mem_of_getElem? (i := 671) (by decide +kernel), List.mem_of_getElem? (i := 672) (by decide +kernel)⟩
theorem lw_p36 : lw_okq (⟨"SlotStartModel", "keepCycle", "(I)V"⟩, 14) := ⟨⟨by decide +kernel, by decide +kernel⟩, List.mem_of_getElem? (i := 500) (by decide +kernel), List.mem_of_getElem? (i := 675) (by decide +kernel), List.mem_of_getElem? (i := 676) (by decide +kernel)⟩
theorem lw_p37 : lw_okq (⟨"SlotStartModel", "setOf", "(I)I"⟩, 14) := ⟨⟨by decide +kernel, by decide +kernel⟩, List.mem_of_getElem? (i := 500) (by decide +kernel), List.mem_of_getElem? (i := 679) (by decide +kernel), List.mem_of_getElem? (i := 680) (by decide +kernel)⟩
theorem lw_p38 : lw_okq (⟨"SlotStartModel", "spreadBut", "(I)I"⟩, 14) := ⟨⟨by decide +kernel, by decide +kernel⟩, List.mem_of_getElem? (i := 500) (by decide +kernel), List.mem_of_getElem? (i := 710) (by decide +kernel), List.mem_of_getElem? (i := 711) (by decide +kernel)⟩
theorem lw_p39 : lw_okq (⟨"SlotStartModel", "inSet", "()I"⟩, 14) := ⟨⟨by decide +kernel, by decide +kernel⟩, List.mem_of_getElem? (i := 500) (by decide +kernel), List.mem_of_getElem? (i := 718) (by decide +kernel), List.mem_of_getElem? (i := 719) (by decide +kernel)⟩
theorem lw_p40 : lw_okq (⟨"SlotStartModel", "save", "(I)V"⟩, 14) := ⟨⟨by decide +kernel, by decide +kernel⟩, List.mem_of_getElem? (i := 500) (by decide +kernel), List.mem_of_getElem? (i := 722) (by decide +kernel), List.mem_of_getElem? (i := 723) (by decide +kernel)⟩
theorem lw_p41 : lw_okq (⟨"SlotStartModel", "load", "(I)V"⟩, 14) := ⟨⟨by decide +kernel, by decide +kernel⟩, List.mem_of_getElem? (i := 500) (by decide +kernel), List.mem_of_getElem? (i := 726) (by decide +kernel), List.mem_of_getElem? (i := 727) (by decide +kernel)⟩
theorem lw_p42 : lw_okq (⟨"SlotStartModel", "bearsOne", "(IIII)Z"⟩, 14) := ⟨⟨by decide +kernel, by decide +kernel⟩, List.mem_of_getElem? (i := 500) (by decide +kernel), List.mem_of_getElem? (i := 734) (by decide +kernel), List.mem_of_getElem? (i := 735) (by decide +kernel)⟩
def lw_privs_3 : List (MethodName × Nat) := [(⟨"SlotStartModel", "trimSeen", "(I)I"⟩, 14), (⟨"SlotStartModel", "lay", "(I)V"⟩, 14), (⟨"SlotStartModel", "trimmed", "()I"⟩, 14), (⟨"SlotStartModel", "trimChanged", "(I)I"⟩, 14), (⟨"SlotStartModel", "keepCycle", "(I)V"⟩, 14), (⟨"SlotStartModel", "setOf", "(I)I"⟩, 14), (⟨"SlotStartModel", "spreadBut", "(I)I"⟩, 14), (⟨"SlotStartModel", "inSet", "()I"⟩, 14), (⟨"SlotStartModel", "save", "(I)V"⟩, 14), (⟨"SlotStartModel", "load", "(I)V"⟩, 14), (⟨"SlotStartModel", "bearsOne", "(IIII)Z"⟩, 14)]
theorem lw_r3 : ∀ q ∈ lw_privs_3, lw_okq q := List.forall_mem_cons.mpr ⟨lw_p32, List.forall_mem_cons.mpr ⟨lw_p33, List.forall_mem_cons.mpr ⟨lw_p34, List.forall_mem_cons.mpr ⟨lw_p35, List.forall_mem_cons.mpr ⟨lw_p36, List.forall_mem_cons.mpr ⟨lw_p37, List.forall_mem_cons.mpr ⟨lw_p38, List.forall_mem_cons.mpr ⟨lw_p39, List.forall_mem_cons.mpr ⟨lw_p40, List.forall_mem_cons.mpr ⟨lw_p41, List.forall_mem_cons.mpr ⟨lw_p42, fun _ h => absurd h List.not_mem_nil⟩⟩⟩⟩⟩⟩⟩⟩⟩⟩⟩
def lw_privs : List (MethodName × Nat) := lw_privs_1 ++ (lw_privs_2 ++ (lw_privs_3))
def lw_tbl : List Cond := k2_sels lw_privs ++ tables_1
theorem lw_privs_ok : ∀ q ∈ lw_privs, lw_okq q := by
  show ∀ q ∈ lw_privs_1 ++ (lw_privs_2 ++ (lw_privs_3)), lw_okq q
  exact List.forall_mem_append.mpr ⟨lw_r1, List.forall_mem_append.mpr ⟨lw_r2, lw_r3⟩⟩
/-! ===== BEGIN words of one list among another's, by their places ===== -/
theorem goodIn_r {big : List Cond} (ws : List Cond) (ps : List Nat) (hp : ws = ps.filterMap (fun i => big[i]?)) (h : ws.all goodWord = true) : GoodIn big ws := by
  intro w hw
  have h1 := List.all_eq_true.mp h w hw
  rw [hp] at hw
  obtain ⟨i, -, hi⟩ := List.mem_filterMap.mp hw
  have hm : w ∈ big := by first | exact List.mem_of_getElem? hi | exact List.getElem?_mem hi
  exact ⟨hm, good_of_word h1⟩
theorem goodIn_app {big a b : List Cond} (ha : GoodIn big a) (hb : GoodIn big b) : GoodIn big (a ++ b) := fun w h => (List.mem_append.mp h).elim (ha w) (hb w)
theorem goodIn_ca {big a b : List Cond} {c : Cond} (ha : GoodIn big (c :: a)) (hb : GoodIn big b) : GoodIn big (c :: (a ++ b)) := fun w h => (List.mem_cons.mp h).elim (fun e => ha w (List.mem_cons.mpr (Or.inl e))) (fun h => (List.mem_append.mp h).elim (fun h => ha w (List.mem_cons.mpr (Or.inr h))) (hb w))
theorem goodIn_sub {big ws : List Cond} (hm : ∀ w ∈ ws, w ∈ big) (h : ws.all goodWord = true) : GoodIn big ws := fun w hw => ⟨hm w hw, good_of_word (List.all_eq_true.mp h w hw)⟩
/-! ===== END ===== -/

/-! ===== BEGIN printed: names, fields, word lists, decode rows ===== -/
def RX0 : String := "SlotStart$Bus"
def TX0 : u_T := fun k => match k with
  | 0 => ("SlotStart$Bus", "nodes", "[LSlotStart$Node;", true)
  | 1 => ("SlotStart$Bus", "log", "LSlotStart$Log;", true)
  | 2 => ("SlotStart$Bus", "numbers", "LSlotStart$Numbers;", true)
  | 3 => ("SlotStart$Bus", "bound", "I", false)
  | 4 => ("SlotStart$Bus", "cycles", "I", false)
  | _ => ("SlotStart$Bus", "senders", "I", false)
def tyX0 : Nat → FieldType := fun k => match k with
  | 0 => .array (.object "SlotStart$Node")
  | 1 => .object "SlotStart$Log"
  | 2 => .object "SlotStart$Numbers"
  | 3 => .int
  | 4 => .int
  | _ => .int
abbrev wsX00 : List Cond := u_ws RX0 TX0 6
theorem nmX0 : ∀ a, a < 6 → ∀ b, b < 6 → a ≠ b → (TX0 a).2.1 ≠ (TX0 b).2.1 := by decide +kernel
theorem tyX0_ok : ∀ k, k < 6 → parseFieldDescriptor (TX0 k).2.2.1 = some (tyX0 k) := by decide +kernel
abbrev cX0_init : ByteArray := prog_2_method_1_code
def yX0_init : MethodName := ⟨RX0, "<init>", "()V"⟩
abbrev cX0_copy : ByteArray := prog_2_method_2_code
def yX0_copy : MethodName := ⟨RX0, "copy", "(LSlotStart$Bus;)V"⟩
abbrev cX0_isSlotOfAnother : ByteArray := prog_2_method_3_code
def yX0_isSlotOfAnother : MethodName := ⟨RX0, "isSlotOfAnother", "(II)Z"⟩
abbrev cX0_thatAre : ByteArray := prog_2_method_4_code
def yX0_thatAre : MethodName := ⟨RX0, "thatAre", "(I)I"⟩
abbrev cX0_awake : ByteArray := prog_2_method_5_code
def yX0_awake : MethodName := ⟨RX0, "awake", "()I"⟩
abbrev cX0_apart : ByteArray := prog_2_method_6_code
def yX0_apart : MethodName := ⟨RX0, "apart", "(I)I"⟩
abbrev cX0_passCycle : ByteArray := prog_2_method_7_code
def yX0_passCycle : MethodName := ⟨RX0, "passCycle", "()V"⟩
abbrev cX0_isSignGiven : ByteArray := prog_2_method_8_code
def yX0_isSignGiven : MethodName := ⟨RX0, "isSignGiven", "()Z"⟩
abbrev cX0_chooseSenders : ByteArray := prog_2_method_9_code
def yX0_chooseSenders : MethodName := ⟨RX0, "chooseSenders", "()V"⟩
abbrev cX0_thatGiveWay : ByteArray := prog_2_method_10_code
def yX0_thatGiveWay : MethodName := ⟨RX0, "thatGiveWay", "(I)I"⟩
abbrev cX0_givesWay : ByteArray := prog_2_method_11_code
def yX0_givesWay : MethodName := ⟨RX0, "givesWay", "(LSlotStart$Node;II)Z"⟩
abbrev cX0_listen : ByteArray := prog_2_method_12_code
def yX0_listen : MethodName := ⟨RX0, "listen", "()V"⟩
abbrev cX0_hearOthers : ByteArray := prog_2_method_13_code
def yX0_hearOthers : MethodName := ⟨RX0, "hearOthers", "(LSlotStart$Node;I)V"⟩
abbrev cX0_settle : ByteArray := prog_2_method_14_code
def yX0_settle : MethodName := ⟨RX0, "settle", "(Z)V"⟩
abbrev cX0_moveClocks : ByteArray := prog_2_method_15_code
def yX0_moveClocks : MethodName := ⟨RX0, "moveClocks", "()V"⟩
def RX1 : String := "SlotStart$Hearing"
def TX1 : u_T := fun k => match k with
  | 0 => ("SlotStart$Hearing", "heard", "I", false)
  | 1 => ("SlotStart$Hearing", "starters", "I", false)
  | 2 => ("SlotStart$Hearing", "guide", "I", false)
  | 3 => ("SlotStart$Hearing", "guideSlot", "I", false)
  | 4 => ("SlotStart$Hearing", "guideSeen", "I", false)
  | 5 => ("SlotStart$Hearing", "guidePace", "I", false)
  | _ => ("SlotStart$Hearing", "seen", "[I", true)
def tyX1 : Nat → FieldType := fun k => match k with
  | 0 => .int
  | 1 => .int
  | 2 => .int
  | 3 => .int
  | 4 => .int
  | 5 => .int
  | _ => .array .int
abbrev wsX10 : List Cond := u_ws RX1 TX1 7
theorem nmX1 : ∀ a, a < 7 → ∀ b, b < 7 → a ≠ b → (TX1 a).2.1 ≠ (TX1 b).2.1 := by decide +kernel
theorem tyX1_ok : ∀ k, k < 7 → parseFieldDescriptor (TX1 k).2.2.1 = some (tyX1 k) := by decide +kernel
abbrev cX1_init : ByteArray := prog_3_method_1_code
def yX1_init : MethodName := ⟨RX1, "<init>", "()V"⟩
abbrev cX1_clear : ByteArray := prog_3_method_2_code
def yX1_clear : MethodName := ⟨RX1, "clear", "()V"⟩
abbrev cX1_copy : ByteArray := prog_3_method_3_code
def yX1_copy : MethodName := ⟨RX1, "copy", "(LSlotStart$Hearing;)V"⟩
abbrev cX1_note : ByteArray := prog_3_method_4_code
def yX1_note : MethodName := ⟨RX1, "note", "(ILSlotStart$Node;I)V"⟩
abbrev cX1_trimOfSeen : ByteArray := prog_3_method_5_code
def yX1_trimOfSeen : MethodName := ⟨RX1, "trimOfSeen", "(LSlotStart$Numbers;)I"⟩
abbrev cX1_trimOfMoves : ByteArray := prog_3_method_6_code
def yX1_trimOfMoves : MethodName := ⟨RX1, "trimOfMoves", "(LSlotStart$Hearing;LSlotStart$Numbers;)I"⟩
def RX2 : String := "SlotStart$Log"
def TX2 : u_T := fun k => match k with
  | 0 => ("SlotStart$Log", "cycles", "[I", true)
  | 1 => ("SlotStart$Log", "nodes", "[I", true)
  | 2 => ("SlotStart$Log", "things", "[I", true)
  | 3 => ("SlotStart$Log", "size", "I", false)
  | _ => ("SlotStart$Log", "first", "I", false)
def tyX2 : Nat → FieldType := fun k => match k with
  | 0 => .array .int
  | 1 => .array .int
  | 2 => .array .int
  | 3 => .int
  | _ => .int
abbrev wsX20 : List Cond := u_ws RX2 TX2 5
theorem nmX2 : ∀ a, a < 5 → ∀ b, b < 5 → a ≠ b → (TX2 a).2.1 ≠ (TX2 b).2.1 := by decide +kernel
theorem tyX2_ok : ∀ k, k < 5 → parseFieldDescriptor (TX2 k).2.2.1 = some (tyX2 k) := by decide +kernel
abbrev cX2_init : ByteArray := prog_4_method_1_code
def yX2_init : MethodName := ⟨RX2, "<init>", "()V"⟩
abbrev cX2_copy : ByteArray := prog_4_method_2_code
def yX2_copy : MethodName := ⟨RX2, "copy", "(LSlotStart$Log;)V"⟩
abbrev cX2_add : ByteArray := prog_4_method_3_code
def yX2_add : MethodName := ⟨RX2, "add", "(III)V"⟩
abbrev cX2_placeOf : ByteArray := prog_4_method_4_code
def yX2_placeOf : MethodName := ⟨RX2, "placeOf", "(I)I"⟩
def RX3 : String := "SlotStart$Node"
def TX3 : u_T := fun k => match k with
  | 0 => ("SlotStart$Node", "kind", "I", false)
  | 1 => ("SlotStart$Node", "slot", "I", false)
  | 2 => ("SlotStart$Node", "wait", "I", false)
  | 3 => ("SlotStart$Node", "drift", "I", false)
  | 4 => ("SlotStart$Node", "lie", "I", false)
  | 5 => ("SlotStart$Node", "is", "I", false)
  | 6 => ("SlotStart$Node", "isNew", "Z", false)
  | 7 => ("SlotStart$Node", "age", "I", false)
  | 8 => ("SlotStart$Node", "quiet", "I", false)
  | 9 => ("SlotStart$Node", "good", "I", false)
  | 10 => ("SlotStart$Node", "bad", "I", false)
  | 11 => ("SlotStart$Node", "at", "I", false)
  | 12 => ("SlotStart$Node", "rate", "I", false)
  | 13 => ("SlotStart$Node", "sent", "I", false)
  | 14 => ("SlotStart$Node", "last", "LSlotStart$Hearing;", false)
  | _ => ("SlotStart$Node", "ahead", "LSlotStart$Hearing;", false)
def tyX3 : Nat → FieldType := fun k => match k with
  | 0 => .int
  | 1 => .int
  | 2 => .int
  | 3 => .int
  | 4 => .int
  | 5 => .int
  | 6 => .boolean
  | 7 => .int
  | 8 => .int
  | 9 => .int
  | 10 => .int
  | 11 => .int
  | 12 => .int
  | 13 => .int
  | 14 => .object "SlotStart$Hearing"
  | _ => .object "SlotStart$Hearing"
abbrev wsX30 : List Cond := u_ws RX3 TX3 16
theorem nmX3 : ∀ a, a < 16 → ∀ b, b < 16 → a ≠ b → (TX3 a).2.1 ≠ (TX3 b).2.1 := by decide +kernel
theorem tyX3_ok : ∀ k, k < 16 → parseFieldDescriptor (TX3 k).2.2.1 = some (tyX3 k) := by decide +kernel
abbrev cX3_init : ByteArray := prog_5_method_1_code
def yX3_init : MethodName := ⟨RX3, "<init>", "(I)V"⟩
abbrev cX3_copy : ByteArray := prog_5_method_2_code
def yX3_copy : MethodName := ⟨RX3, "copy", "(LSlotStart$Node;)V"⟩
abbrev cX3_isAwake : ByteArray := prog_5_method_3_code
def yX3_isAwake : MethodName := ⟨RX3, "isAwake", "()Z"⟩
abbrev cX3_isReadyToSend : ByteArray := prog_5_method_4_code
def yX3_isReadyToSend : MethodName := ⟨RX3, "isReadyToSend", "()Z"⟩
abbrev cX3_isFirstTurnOfLeader : ByteArray := prog_5_method_5_code
def yX3_isFirstTurnOfLeader : MethodName := ⟨RX3, "isFirstTurnOfLeader", "()Z"⟩
abbrev cX3_givesSign : ByteArray := prog_5_method_6_code
def yX3_givesSign : MethodName := ⟨RX3, "givesSign", "()Z"⟩
abbrev cX3_become : ByteArray := prog_5_method_7_code
def yX3_become : MethodName := ⟨RX3, "become", "(I)V"⟩
abbrev cX3_beginAnew : ByteArray := prog_5_method_8_code
def yX3_beginAnew : MethodName := ⟨RX3, "beginAnew", "(II)V"⟩
abbrev cX3_turnHearing : ByteArray := prog_5_method_9_code
def yX3_turnHearing : MethodName := ⟨RX3, "turnHearing", "()V"⟩
abbrev cX3_settle : ByteArray := prog_5_method_10_code
def yX3_settle : MethodName := ⟨RX3, "settle", "(Z)V"⟩
abbrev cX3_settleListening : ByteArray := prog_5_method_11_code
def yX3_settleListening : MethodName := ⟨RX3, "settleListening", "(Z)V"⟩
abbrev cX3_followGuide : ByteArray := prog_5_method_12_code
def yX3_followGuide : MethodName := ⟨RX3, "followGuide", "()V"⟩
abbrev cX3_settleLeading : ByteArray := prog_5_method_13_code
def yX3_settleLeading : MethodName := ⟨RX3, "settleLeading", "()V"⟩
abbrev cX3_settleJoining : ByteArray := prog_5_method_14_code
def yX3_settleJoining : MethodName := ⟨RX3, "settleJoining", "()V"⟩
abbrev cX3_correct : ByteArray := prog_5_method_15_code
def yX3_correct : MethodName := ⟨RX3, "correct", "(ILSlotStart$Numbers;)V"⟩
def RX4 : String := "SlotStart$Numbers"
def TX4 : u_T := fun k => match k with
  | 0 => ("SlotStart$Numbers", "row", "[I", true)
  | _ => ("SlotStart$Numbers", "size", "I", false)
def tyX4 : Nat → FieldType := fun k => match k with
  | 0 => .array .int
  | _ => .int
abbrev wsX40 : List Cond := u_ws RX4 TX4 2
theorem nmX4 : ∀ a, a < 2 → ∀ b, b < 2 → a ≠ b → (TX4 a).2.1 ≠ (TX4 b).2.1 := by decide +kernel
theorem tyX4_ok : ∀ k, k < 2 → parseFieldDescriptor (TX4 k).2.2.1 = some (tyX4 k) := by decide +kernel
abbrev cX4_init : ByteArray := prog_6_method_1_code
def yX4_init : MethodName := ⟨RX4, "<init>", "()V"⟩
abbrev cX4_clear : ByteArray := prog_6_method_2_code
def yX4_clear : MethodName := ⟨RX4, "clear", "()V"⟩
abbrev cX4_put : ByteArray := prog_6_method_3_code
def yX4_put : MethodName := ⟨RX4, "put", "(I)V"⟩
abbrev cX4_areWithin : ByteArray := prog_6_method_4_code
def yX4_areWithin : MethodName := ⟨RX4, "areWithin", "(II)Z"⟩
abbrev cX4_trimmed : ByteArray := prog_6_method_5_code
def yX4_trimmed : MethodName := ⟨RX4, "trimmed", "()I"⟩
def RX5 : String := "SlotStart"
def TX5 : u_T := fun k => match k with
  | 0 => ("SlotStart", "bus", "LSlotStart$Bus;", true)
  | 1 => ("SlotStart", "trial", "LSlotStart$Bus;", true)
  | 2 => ("SlotStart", "images", "[LSlotStart$Bus;", true)
  | 3 => ("SlotStart", "kept", "I", false)
  | _ => ("SlotStart", "given", "LSlotStart$Numbers;", true)
def tyX5 : Nat → FieldType := fun k => match k with
  | 0 => .object "SlotStart$Bus"
  | 1 => .object "SlotStart$Bus"
  | 2 => .array (.object "SlotStart$Bus")
  | 3 => .int
  | _ => .object "SlotStart$Numbers"
abbrev wsX50 : List Cond := u_ws RX5 TX5 5
theorem nmX5 : ∀ a, a < 5 → ∀ b, b < 5 → a ≠ b → (TX5 a).2.1 ≠ (TX5 b).2.1 := by decide +kernel
theorem tyX5_ok : ∀ k, k < 5 → parseFieldDescriptor (TX5 k).2.2.1 = some (tyX5 k) := by decide +kernel
abbrev cX5_init : ByteArray := prog_1_method_1_code
def yX5_init : MethodName := ⟨RX5, "<init>", "()V"⟩
abbrev cX5_node : ByteArray := prog_1_method_2_code
def yX5_node : MethodName := ⟨RX5, "node", "(IIII)I"⟩
abbrev cX5_clock : ByteArray := prog_1_method_3_code
def yX5_clock : MethodName := ⟨RX5, "clock", "(III)I"⟩
abbrev cX5_bound : ByteArray := prog_1_method_4_code
def yX5_bound : MethodName := ⟨RX5, "bound", "(I)I"⟩
abbrev cX5_wake : ByteArray := prog_1_method_5_code
def yX5_wake : MethodName := ⟨RX5, "wake", "(II)I"⟩
abbrev cX5_off : ByteArray := prog_1_method_6_code
def yX5_off : MethodName := ⟨RX5, "off", "(I)I"⟩
abbrev cX5_run : ByteArray := prog_1_method_7_code
def yX5_run : MethodName := ⟨RX5, "run", "(I)I"⟩
abbrev cX5_told : ByteArray := prog_1_method_8_code
def yX5_told : MethodName := ⟨RX5, "told", "(II)I"⟩
abbrev cX5_seen : ByteArray := prog_1_method_9_code
def yX5_seen : MethodName := ⟨RX5, "seen", "(II)I"⟩
abbrev cX5_trim : ByteArray := prog_1_method_10_code
def yX5_trim : MethodName := ⟨RX5, "trim", "(IIIII)I"⟩
abbrev cX5_event : ByteArray := prog_1_method_11_code
def yX5_event : MethodName := ⟨RX5, "event", "(II)I"⟩
abbrev cX5_spread : ByteArray := prog_1_method_12_code
def yX5_spread : MethodName := ⟨RX5, "spread", "()I"⟩
abbrev cX5_soon : ByteArray := prog_1_method_13_code
def yX5_soon : MethodName := ⟨RX5, "soon", "()I"⟩
abbrev cX5_bears : ByteArray := prog_1_method_14_code
def yX5_bears : MethodName := ⟨RX5, "bears", "(III)I"⟩
abbrev cX5_image : ByteArray := prog_1_method_15_code
def yX5_image : MethodName := ⟨RX5, "image", "(I)I"⟩
abbrev cX5_restore : ByteArray := prog_1_method_16_code
def yX5_restore : MethodName := ⟨RX5, "restore", "(I)I"⟩
abbrev cX5_count : ByteArray := prog_1_method_17_code
def yX5_count : MethodName := ⟨RX5, "count", "(I)I"⟩
abbrev cX5_staysTogether : ByteArray := prog_1_method_18_code
def yX5_staysTogether : MethodName := ⟨RX5, "staysTogether", "(III)Z"⟩
abbrev cX5_isNode : ByteArray := prog_1_method_19_code
def yX5_isNode : MethodName := ⟨RX5, "isNode", "(I)Z"⟩
abbrev cX5_isWithin : ByteArray := prog_1_method_20_code
def yX5_isWithin : MethodName := ⟨RX5, "isWithin", "(III)Z"⟩
abbrev cX5_bitOf : ByteArray := prog_1_method_21_code
def yX5_bitOf : MethodName := ⟨RX5, "bitOf", "(I)I"⟩
abbrev cX5_isIn : ByteArray := prog_1_method_22_code
def yX5_isIn : MethodName := ⟨RX5, "isIn", "(II)Z"⟩
abbrev cX5_areAllIn : ByteArray := prog_1_method_23_code
def yX5_areAllIn : MethodName := ⟨RX5, "areAllIn", "(II)Z"⟩
def RX6 : String := "SlotStartModel"
def TX6 : u_T := fun k => match k with
  | 0 => ("SlotStartModel", "state", "[I", true)
  | 1 => ("SlotStartModel", "images", "[I", true)
  | 2 => ("SlotStartModel", "isKept", "[Z", true)
  | 3 => ("SlotStartModel", "numbers", "[I", true)
  | 4 => ("SlotStartModel", "many", "I", false)
  | 5 => ("SlotStartModel", "sends", "[Z", true)
  | 6 => ("SlotStartModel", "signs", "[Z", true)
  | 7 => ("SlotStartModel", "fell", "[Z", true)
  | 8 => ("SlotStartModel", "changed", "[Z", true)
  | 9 => ("SlotStartModel", "heard", "[I", true)
  | 10 => ("SlotStartModel", "starters", "[I", true)
  | 11 => ("SlotStartModel", "guide", "[I", true)
  | 12 => ("SlotStartModel", "seen", "[I", true)
  | _ => ("SlotStartModel", "rate", "[I", true)
def tyX6 : Nat → FieldType := fun k => match k with
  | 0 => .array .int
  | 1 => .array .int
  | 2 => .array .boolean
  | 3 => .array .int
  | 4 => .int
  | 5 => .array .boolean
  | 6 => .array .boolean
  | 7 => .array .boolean
  | 8 => .array .boolean
  | 9 => .array .int
  | 10 => .array .int
  | 11 => .array .int
  | 12 => .array .int
  | _ => .array .int
abbrev wsX60 : List Cond := u_ws RX6 TX6 14
theorem nmX6 : ∀ a, a < 14 → ∀ b, b < 14 → a ≠ b → (TX6 a).2.1 ≠ (TX6 b).2.1 := by decide +kernel
theorem tyX6_ok : ∀ k, k < 14 → parseFieldDescriptor (TX6 k).2.2.1 = some (tyX6 k) := by decide +kernel
abbrev cX6_init : ByteArray := prog_8_method_1_code
def yX6_init : MethodName := ⟨RX6, "<init>", "()V"⟩
abbrev cX6_in : ByteArray := prog_8_method_2_code
def yX6_in : MethodName := ⟨RX6, "in", "(III)Z"⟩
abbrev cX6_isNode : ByteArray := prog_8_method_3_code
def yX6_isNode : MethodName := ⟨RX6, "isNode", "(I)Z"⟩
abbrev cX6_is : ByteArray := prog_8_method_4_code
def yX6_is : MethodName := ⟨RX6, "is", "(II)Z"⟩
abbrev cX6_isOut : ByteArray := prog_8_method_5_code
def yX6_isOut : MethodName := ⟨RX6, "isOut", "(I)Z"⟩
abbrev cX6_plain : ByteArray := prog_8_method_6_code
def yX6_plain : MethodName := ⟨RX6, "plain", "(I)I"⟩
abbrev cX6_isTaken : ByteArray := prog_8_method_7_code
def yX6_isTaken : MethodName := ⟨RX6, "isTaken", "(II)Z"⟩
abbrev cX6_node : ByteArray := prog_8_method_8_code
def yX6_node : MethodName := ⟨RX6, "node", "(IIII)I"⟩
abbrev cX6_clock : ByteArray := prog_8_method_9_code
def yX6_clock : MethodName := ⟨RX6, "clock", "(III)I"⟩
abbrev cX6_bound : ByteArray := prog_8_method_10_code
def yX6_bound : MethodName := ⟨RX6, "bound", "(I)I"⟩
abbrev cX6_begin : ByteArray := prog_8_method_11_code
def yX6_begin : MethodName := ⟨RX6, "begin", "(II)V"⟩
abbrev cX6_wake : ByteArray := prog_8_method_12_code
def yX6_wake : MethodName := ⟨RX6, "wake", "(II)I"⟩
abbrev cX6_off : ByteArray := prog_8_method_13_code
def yX6_off : MethodName := ⟨RX6, "off", "(I)I"⟩
abbrev cX6_lay : ByteArray := prog_8_method_14_code
def yX6_lay : MethodName := ⟨RX6, "lay", "(I)V"⟩
abbrev cX6_trimmed : ByteArray := prog_8_method_15_code
def yX6_trimmed : MethodName := ⟨RX6, "trimmed", "()I"⟩
abbrev cX6_isFirst : ByteArray := prog_8_method_16_code
def yX6_isFirst : MethodName := ⟨RX6, "isFirst", "(I)Z"⟩
abbrev cX6_laySenders : ByteArray := prog_8_method_17_code
def yX6_laySenders : MethodName := ⟨RX6, "laySenders", "()V"⟩
abbrev cX6_givesWay : ByteArray := prog_8_method_18_code
def yX6_givesWay : MethodName := ⟨RX6, "givesWay", "(I)Z"⟩
abbrev cX6_hear : ByteArray := prog_8_method_19_code
def yX6_hear : MethodName := ⟨RX6, "hear", "(I)V"⟩
abbrev cX6_keepEvent : ByteArray := prog_8_method_20_code
def yX6_keepEvent : MethodName := ⟨RX6, "keepEvent", "(I)V"⟩
abbrev cX6_become : ByteArray := prog_8_method_21_code
def yX6_become : MethodName := ⟨RX6, "become", "(II)V"⟩
abbrev cX6_otherSign : ByteArray := prog_8_method_22_code
def yX6_otherSign : MethodName := ⟨RX6, "otherSign", "(I)Z"⟩
abbrev cX6_follow : ByteArray := prog_8_method_23_code
def yX6_follow : MethodName := ⟨RX6, "follow", "(II)V"⟩
abbrev cX6_listen : ByteArray := prog_8_method_24_code
def yX6_listen : MethodName := ⟨RX6, "listen", "(I)V"⟩
abbrev cX6_lead : ByteArray := prog_8_method_25_code
def yX6_lead : MethodName := ⟨RX6, "lead", "(I)V"⟩
abbrev cX6_join : ByteArray := prog_8_method_26_code
def yX6_join : MethodName := ⟨RX6, "join", "(I)V"⟩
abbrev cX6_trimSeen : ByteArray := prog_8_method_27_code
def yX6_trimSeen : MethodName := ⟨RX6, "trimSeen", "(I)I"⟩
abbrev cX6_trimChanged : ByteArray := prog_8_method_28_code
def yX6_trimChanged : MethodName := ⟨RX6, "trimChanged", "(I)I"⟩
abbrev cX6_correct : ByteArray := prog_8_method_29_code
def yX6_correct : MethodName := ⟨RX6, "correct", "(I)V"⟩
abbrev cX6_keepOn : ByteArray := prog_8_method_30_code
def yX6_keepOn : MethodName := ⟨RX6, "keepOn", "(I)V"⟩
abbrev cX6_end : ByteArray := prog_8_method_31_code
def yX6_end : MethodName := ⟨RX6, "end", "(I)V"⟩
abbrev cX6_keepCycle : ByteArray := prog_8_method_32_code
def yX6_keepCycle : MethodName := ⟨RX6, "keepCycle", "(I)V"⟩
abbrev cX6_cycle : ByteArray := prog_8_method_33_code
def yX6_cycle : MethodName := ⟨RX6, "cycle", "()V"⟩
abbrev cX6_setOf : ByteArray := prog_8_method_34_code
def yX6_setOf : MethodName := ⟨RX6, "setOf", "(I)I"⟩
abbrev cX6_run : ByteArray := prog_8_method_35_code
def yX6_run : MethodName := ⟨RX6, "run", "(I)I"⟩
abbrev cX6_size : ByteArray := prog_8_method_36_code
def yX6_size : MethodName := ⟨RX6, "size", "(I)I"⟩
abbrev cX6_told : ByteArray := prog_8_method_37_code
def yX6_told : MethodName := ⟨RX6, "told", "(II)I"⟩
abbrev cX6_seen : ByteArray := prog_8_method_38_code
def yX6_seen : MethodName := ⟨RX6, "seen", "(II)I"⟩
abbrev cX6_isWithin : ByteArray := prog_8_method_39_code
def yX6_isWithin : MethodName := ⟨RX6, "isWithin", "(I)Z"⟩
abbrev cX6_trim : ByteArray := prog_8_method_40_code
def yX6_trim : MethodName := ⟨RX6, "trim", "(IIIII)I"⟩
abbrev cX6_event : ByteArray := prog_8_method_41_code
def yX6_event : MethodName := ⟨RX6, "event", "(II)I"⟩
abbrev cX6_spreadBut : ByteArray := prog_8_method_42_code
def yX6_spreadBut : MethodName := ⟨RX6, "spreadBut", "(I)I"⟩
abbrev cX6_spread : ByteArray := prog_8_method_43_code
def yX6_spread : MethodName := ⟨RX6, "spread", "()I"⟩
abbrev cX6_save : ByteArray := prog_8_method_44_code
def yX6_save : MethodName := ⟨RX6, "save", "(I)V"⟩
abbrev cX6_load : ByteArray := prog_8_method_45_code
def yX6_load : MethodName := ⟨RX6, "load", "(I)V"⟩
abbrev cX6_inSet : ByteArray := prog_8_method_46_code
def yX6_inSet : MethodName := ⟨RX6, "inSet", "()I"⟩
abbrev cX6_soon : ByteArray := prog_8_method_47_code
def yX6_soon : MethodName := ⟨RX6, "soon", "()I"⟩
abbrev cX6_bearsOne : ByteArray := prog_8_method_48_code
def yX6_bearsOne : MethodName := ⟨RX6, "bearsOne", "(IIII)Z"⟩
abbrev cX6_bears : ByteArray := prog_8_method_49_code
def yX6_bears : MethodName := ⟨RX6, "bears", "(III)I"⟩
abbrev cX6_image : ByteArray := prog_8_method_50_code
def yX6_image : MethodName := ⟨RX6, "image", "(I)I"⟩
abbrev cX6_restore : ByteArray := prog_8_method_51_code
def yX6_restore : MethodName := ⟨RX6, "restore", "(I)I"⟩
abbrev cX6_count : ByteArray := prog_8_method_52_code
def yX6_count : MethodName := ⟨RX6, "count", "(I)I"⟩
def RJ6 : String := "java/lang/Integer"
def TJ6 : u_T := fun k => match k with
  | _ => ("", "", "", false)
def tyJ6 : Nat → FieldType := fun k => match k with
  | _ => .int
abbrev wsJ60 : List Cond := u_ws RJ6 TJ6 0
theorem nmJ6 : ∀ a, a < 0 → ∀ b, b < 0 → a ≠ b → (TJ6 a).2.1 ≠ (TJ6 b).2.1 := by decide +kernel
theorem tyJ6_ok : ∀ k, k < 0 → parseFieldDescriptor (TJ6 k).2.2.1 = some (tyJ6 k) := by decide +kernel
abbrev cJ6_bitCount_0f7a4 : ByteArray := prog_9_method_49_code
def yJ6_bitCount_0f7a4 : MethodName := ⟨RJ6, "bitCount", "(I)I"⟩
def RJ9 : String := "java/lang/Math"
def TJ9 : u_T := fun k => match k with
  | _ => ("", "", "", false)
def tyJ9 : Nat → FieldType := fun k => match k with
  | _ => .int
abbrev wsJ90 : List Cond := u_ws RJ9 TJ9 0
theorem nmJ9 : ∀ a, a < 0 → ∀ b, b < 0 → a ≠ b → (TJ9 a).2.1 ≠ (TJ9 b).2.1 := by decide +kernel
theorem tyJ9_ok : ∀ k, k < 0 → parseFieldDescriptor (TJ9 k).2.2.1 = some (tyJ9 k) := by decide +kernel
abbrev cJ9_abs_0f7a4 : ByteArray := prog_10_method_59_code
def yJ9_abs_0f7a4 : MethodName := ⟨RJ9, "abs", "(I)I"⟩
abbrev cJ9_max_7cf53 : ByteArray := prog_10_method_65_code
def yJ9_max_7cf53 : MethodName := ⟨RJ9, "max", "(II)I"⟩
abbrev cJ9_min_7cf53 : ByteArray := prog_10_method_69_code
def yJ9_min_7cf53 : MethodName := ⟨RJ9, "min", "(II)I"⟩
def RL : String := "SlotStartLaw"
abbrev cL_law : ByteArray := code
def yL_law : MethodName := ⟨RL, "law", "([I)Z"⟩
def wsL_law_r1 : List Cond := [Cond.classLink RL 7 RX5, Cond.instantiable RX5 5, Cond.initialized RX5, Cond.classLink RL 10 RX6, Cond.instantiable RX6 14, Cond.initialized RX6, Cond.methodLink RL 9 yX5_init, Cond.instanceMethod yX5_init, Cond.code yX5_init cX5_init 2 none, Cond.methodLink RX5 1 objectInit, Cond.instanceMethod objectInit, Cond.code objectInit ⟨#[0xb1]⟩ 1 none, Cond.classLink RX5 7 RX0, Cond.instantiable RX0 6, Cond.initialized RX0, Cond.fieldLink RX5 10 "SlotStart" "bus" "LSlotStart$Bus;", Cond.fieldLink RX5 16 "SlotStart" "trial" "LSlotStart$Bus;", Cond.fieldLink RX5 19 "SlotStart" "images" "[LSlotStart$Bus;", Cond.fieldLink RX5 23 "SlotStart" "kept" "I", Cond.classLink RX5 27 RX4, Cond.instantiable RX4 2, Cond.initialized RX4, Cond.fieldLink RX5 30 "SlotStart" "given" "LSlotStart$Numbers;", Cond.methodLink RX5 9 yX0_init]
def wsL_law_r2 : List Cond := [Cond.instanceMethod yX0_init, Cond.code yX0_init cX0_init 2 none, Cond.methodLink RX0 3 objectInit, Cond.classLink RX0 9 RX3, Cond.fieldLink RX0 11 "SlotStart$Bus" "nodes" "[LSlotStart$Node;", Cond.classLink RX0 17 RX2, Cond.instantiable RX2 5, Cond.initialized RX2, Cond.fieldLink RX0 20 "SlotStart$Bus" "log" "LSlotStart$Log;", Cond.classLink RX0 24 RX4, Cond.fieldLink RX0 27 "SlotStart$Bus" "numbers" "LSlotStart$Numbers;", Cond.fieldLink RX0 31 "SlotStart$Bus" "bound" "I", Cond.fieldLink RX0 35 "SlotStart$Bus" "cycles" "I", Cond.fieldLink RX0 38 "SlotStart$Bus" "senders" "I", Cond.instantiable RX3 16, Cond.initialized RX3, Cond.instanceMethod yX2_init, Cond.code yX2_init cX2_init 1 none, Cond.methodLink RX2 3 objectInit, Cond.arrayClass .int, Cond.fieldLink RX2 9 "SlotStart$Log" "cycles" "[I", Cond.fieldLink RX2 15 "SlotStart$Log" "nodes" "[I", Cond.fieldLink RX2 18 "SlotStart$Log" "things" "[I", Cond.fieldLink RX2 21 "SlotStart$Log" "size" "I"]
def wsL_law_r3 : List Cond := [Cond.fieldLink RX2 25 "SlotStart$Log" "first" "I", Cond.instanceMethod yX4_init, Cond.code yX4_init cX4_init 1 none, Cond.methodLink RX4 3 objectInit, Cond.fieldLink RX4 9 "SlotStart$Numbers" "row" "[I", Cond.fieldLink RX4 15 "SlotStart$Numbers" "size" "I", Cond.methodLink RX0 41 yX3_init, Cond.instanceMethod yX3_init, Cond.code yX3_init cX3_init 2 none, Cond.methodLink RX3 3 objectInit, Cond.fieldLink RX3 9 "SlotStart$Node" "wait" "I", Cond.fieldLink RX3 15 "SlotStart$Node" "drift" "I", Cond.fieldLink RX3 18 "SlotStart$Node" "lie" "I", Cond.fieldLink RX3 21 "SlotStart$Node" "is" "I", Cond.fieldLink RX3 24 "SlotStart$Node" "isNew" "Z", Cond.fieldLink RX3 28 "SlotStart$Node" "age" "I", Cond.fieldLink RX3 31 "SlotStart$Node" "quiet" "I", Cond.fieldLink RX3 34 "SlotStart$Node" "good" "I", Cond.fieldLink RX3 37 "SlotStart$Node" "bad" "I", Cond.fieldLink RX3 40 "SlotStart$Node" "at" "I", Cond.fieldLink RX3 43 "SlotStart$Node" "rate" "I", Cond.fieldLink RX3 46 "SlotStart$Node" "sent" "I", Cond.classLink RX3 49 RX1, Cond.instantiable RX1 7]
def wsL_law_r4 : List Cond := [Cond.initialized RX1, Cond.fieldLink RX3 52 "SlotStart$Node" "last" "LSlotStart$Hearing;", Cond.fieldLink RX3 56 "SlotStart$Node" "ahead" "LSlotStart$Hearing;", Cond.fieldLink RX3 59 "SlotStart$Node" "kind" "I", Cond.fieldLink RX3 62 "SlotStart$Node" "slot" "I", Cond.instanceMethod yX1_init, Cond.code yX1_init cX1_init 1 none, Cond.methodLink RX1 3 objectInit, Cond.fieldLink RX1 9 "SlotStart$Hearing" "heard" "I", Cond.fieldLink RX1 15 "SlotStart$Hearing" "starters" "I", Cond.fieldLink RX1 18 "SlotStart$Hearing" "guide" "I", Cond.fieldLink RX1 21 "SlotStart$Hearing" "guideSlot" "I", Cond.fieldLink RX1 24 "SlotStart$Hearing" "guideSeen" "I", Cond.fieldLink RX1 27 "SlotStart$Hearing" "guidePace" "I", Cond.fieldLink RX1 30 "SlotStart$Hearing" "seen" "[I", Cond.methodLink RL 12 yX6_init, Cond.instanceMethod yX6_init, Cond.code yX6_init cX6_init 2 none, Cond.methodLink RX6 1 objectInit, Cond.fieldLink RX6 7 "SlotStartModel" "state" "[I", Cond.fieldLink RX6 13 "SlotStartModel" "images" "[I", Cond.arrayClass .boolean, Cond.fieldLink RX6 16 "SlotStartModel" "isKept" "[Z", Cond.fieldLink RX6 20 "SlotStartModel" "numbers" "[I"]
def wsL_law_r5 : List Cond := [Cond.fieldLink RX6 23 "SlotStartModel" "sends" "[Z", Cond.fieldLink RX6 26 "SlotStartModel" "signs" "[Z", Cond.fieldLink RX6 29 "SlotStartModel" "fell" "[Z", Cond.fieldLink RX6 32 "SlotStartModel" "changed" "[Z", Cond.fieldLink RX6 35 "SlotStartModel" "heard" "[I", Cond.fieldLink RX6 38 "SlotStartModel" "starters" "[I", Cond.fieldLink RX6 41 "SlotStartModel" "guide" "[I", Cond.fieldLink RX6 44 "SlotStartModel" "seen" "[I", Cond.fieldLink RX6 47 "SlotStartModel" "rate" "[I", Cond.methodLink RL 13 yX5_node, Cond.instanceMethod yX5_node, Cond.selects RX5 yX5_node yX5_node, Cond.code yX5_node cX5_node 8 (some .int), Cond.fieldLink RX5 42 "SlotStart$Bus" "nodes" "[LSlotStart$Node;", Cond.fieldLink RX5 46 "SlotStart$Node" "is" "I", Cond.fieldLink RX5 55 "SlotStart$Node" "slot" "I", Cond.fieldLink RX5 58 "SlotStart$Node" "kind" "I", Cond.fieldLink RX5 61 "SlotStart$Node" "wait" "I", Cond.methodLink RX5 34 yX5_isNode, Cond.static yX5_isNode, Cond.code yX5_isNode cX5_isNode 1 (some .boolean), Cond.methodLink RX5 38 yX5_isWithin, Cond.static yX5_isWithin, Cond.code yX5_isWithin cX5_isWithin 3 (some .boolean)]
def wsL_law_r6 : List Cond := [Cond.methodLink RX5 51 yX0_isSlotOfAnother, Cond.instanceMethod yX0_isSlotOfAnother, Cond.selects RX0 yX0_isSlotOfAnother yX0_isSlotOfAnother, Cond.code yX0_isSlotOfAnother cX0_isSlotOfAnother 4 (some .boolean), Cond.fieldLink RX0 51 "SlotStart$Node" "slot" "I", Cond.methodLink RL 17 yX6_node, Cond.instanceMethod yX6_node, Cond.selects RX6 yX6_node yX6_node, Cond.code yX6_node cX6_node 6 (some .int), Cond.methodLink RX6 58 yX6_isNode, Cond.static yX6_isNode, Cond.code yX6_isNode cX6_isNode 1 (some .boolean), Cond.methodLink RX6 50 yX6_in, Cond.static yX6_in, Cond.code yX6_in cX6_in 3 (some .boolean), Cond.methodLink RX6 54 yX6_is, Cond.instanceMethod yX6_is, Cond.selects RX6 yX6_is yX6_is, Cond.code yX6_is cX6_is 3 (some .boolean), Cond.methodLink RX6 62 yX6_isTaken, Cond.instanceMethod yX6_isTaken, Cond.selects RX6 yX6_isTaken yX6_isTaken, Cond.code yX6_isTaken cX6_isTaken 5 (some .boolean), Cond.methodLink RL 18 yX5_clock]
def wsL_law_r7 : List Cond := [Cond.instanceMethod yX5_clock, Cond.selects RX5 yX5_clock yX5_clock, Cond.code yX5_clock cX5_clock 6 (some .int), Cond.fieldLink RX5 64 "SlotStart$Node" "drift" "I", Cond.fieldLink RX5 67 "SlotStart$Node" "lie" "I", Cond.methodLink RL 22 yX6_clock, Cond.instanceMethod yX6_clock, Cond.selects RX6 yX6_clock yX6_clock, Cond.code yX6_clock cX6_clock 5 (some .int), Cond.methodLink RL 23 yX5_bound, Cond.instanceMethod yX5_bound, Cond.selects RX5 yX5_bound yX5_bound, Cond.code yX5_bound cX5_bound 3 (some .int), Cond.fieldLink RX5 70 "SlotStart$Bus" "bound" "I", Cond.methodLink RL 27 yX6_bound, Cond.instanceMethod yX6_bound, Cond.selects RX6 yX6_bound yX6_bound, Cond.code yX6_bound cX6_bound 3 (some .int), Cond.methodLink RL 28 yX5_wake, Cond.instanceMethod yX5_wake, Cond.selects RX5 yX5_wake yX5_wake, Cond.code yX5_wake cX5_wake 4 (some .int), Cond.methodLink RX5 73 yX3_isAwake, Cond.instanceMethod yX3_isAwake]
def wsL_law_r8 : List Cond := [Cond.selects RX3 yX3_isAwake yX3_isAwake, Cond.code yX3_isAwake cX3_isAwake 1 (some .boolean), Cond.methodLink RX5 77 yX3_beginAnew, Cond.instanceMethod yX3_beginAnew, Cond.selects RX3 yX3_beginAnew yX3_beginAnew, Cond.code yX3_beginAnew cX3_beginAnew 3 none, Cond.methodLink RX3 69 yX3_become, Cond.instanceMethod yX3_become, Cond.selects RX3 yX3_become yX3_become, Cond.code yX3_become cX3_become 2 none, Cond.methodLink RX5 81 yX0_awake, Cond.instanceMethod yX0_awake, Cond.selects RX0 yX0_awake yX0_awake, Cond.code yX0_awake cX0_awake 3 (some .int), Cond.methodLink RX0 61 yX3_isAwake, Cond.static yX5_bitOf, Cond.code yX5_bitOf cX5_bitOf 1 (some .int), Cond.methodLink RX5 85 yJ6_bitCount_0f7a4, Cond.static yJ6_bitCount_0f7a4, Cond.initialized RJ6, Cond.code yJ6_bitCount_0f7a4 cJ6_bitCount_0f7a4 1 (some .int), Cond.constant RJ6 265 (1431655765), Cond.constant RJ6 266 (858993459), Cond.constant RJ6 267 (252645135)]
def wsL_law_r9 : List Cond := [Cond.methodLink RL 32 yX6_wake, Cond.instanceMethod yX6_wake, Cond.selects RX6 yX6_wake yX6_wake, Cond.code yX6_wake cX6_wake 5 (some .int), Cond.methodLink RX6 65 yX6_isOut, Cond.instanceMethod yX6_isOut, Cond.selects RX6 yX6_isOut yX6_isOut, Cond.code yX6_isOut cX6_isOut 2 (some .boolean), Cond.methodLink RX6 68 yX6_begin, Cond.instanceMethod yX6_begin, Cond.selects RX6 yX6_begin yX6_begin, Cond.code yX6_begin cX6_begin 3 none, Cond.methodLink RL 33 yX5_off, Cond.instanceMethod yX5_off, Cond.selects RX5 yX5_off yX5_off, Cond.code yX5_off cX5_off 4 (some .int), Cond.methodLink RL 36 yX6_off, Cond.instanceMethod yX6_off, Cond.selects RX6 yX6_off yX6_off, Cond.code yX6_off cX6_off 3 (some .int), Cond.methodLink RL 37 yX5_run, Cond.instanceMethod yX5_run, Cond.selects RX5 yX5_run yX5_run, Cond.code yX5_run cX5_run 3 (some .int)]
def wsL_law_r10 : List Cond := [Cond.methodLink RX5 91 yX0_passCycle, Cond.instanceMethod yX0_passCycle, Cond.selects RX0 yX0_passCycle yX0_passCycle, Cond.code yX0_passCycle cX0_passCycle 2 none, Cond.methodLink RX0 81 yX0_isSignGiven, Cond.instanceMethod yX0_isSignGiven, Cond.selects RX0 yX0_isSignGiven yX0_isSignGiven, Cond.code yX0_isSignGiven cX0_isSignGiven 2 (some .boolean), Cond.methodLink RX0 97 yX3_givesSign, Cond.instanceMethod yX3_givesSign, Cond.selects RX3 yX3_givesSign yX3_givesSign, Cond.code yX3_givesSign cX3_givesSign 1 (some .boolean), Cond.methodLink RX0 84 yX0_chooseSenders, Cond.instanceMethod yX0_chooseSenders, Cond.selects RX0 yX0_chooseSenders yX0_chooseSenders, Cond.code yX0_chooseSenders cX0_chooseSenders 3 none, Cond.fieldLink RX0 100 "SlotStart$Node" "isNew" "Z", Cond.fieldLink RX0 110 "SlotStart$Node" "sent" "I", Cond.methodLink RX0 104 yX3_isReadyToSend, Cond.instanceMethod yX3_isReadyToSend, Cond.selects RX3 yX3_isReadyToSend yX3_isReadyToSend, Cond.code yX3_isReadyToSend cX3_isReadyToSend 1 (some .boolean), Cond.methodLink RX0 107 yX0_thatGiveWay, Cond.instanceMethod yX0_thatGiveWay]
def wsL_law_r11 : List Cond := [Cond.selects RX0 yX0_thatGiveWay yX0_thatGiveWay, Cond.code yX0_thatGiveWay cX0_thatGiveWay 4 (some .int), Cond.static yX5_isIn, Cond.code yX5_isIn cX5_isIn 2 (some .boolean), Cond.methodLink RX0 116 yX3_isFirstTurnOfLeader, Cond.instanceMethod yX3_isFirstTurnOfLeader, Cond.selects RX3 yX3_isFirstTurnOfLeader yX3_isFirstTurnOfLeader, Cond.code yX3_isFirstTurnOfLeader cX3_isFirstTurnOfLeader 1 (some .boolean), Cond.methodLink RX0 119 yX0_givesWay, Cond.instanceMethod yX0_givesWay, Cond.selects RX0 yX0_givesWay yX0_givesWay, Cond.code yX0_givesWay cX0_givesWay 5 (some .boolean), Cond.methodLink RX0 113 yX3_become, Cond.methodLink RX0 87 yX0_listen, Cond.instanceMethod yX0_listen, Cond.selects RX0 yX0_listen yX0_listen, Cond.code yX0_listen cX0_listen 2 none, Cond.methodLink RX0 123 yX3_turnHearing, Cond.instanceMethod yX3_turnHearing, Cond.selects RX3 yX3_turnHearing yX3_turnHearing, Cond.code yX3_turnHearing cX3_turnHearing 2 none, Cond.methodLink RX3 73 yX1_clear, Cond.instanceMethod yX1_clear, Cond.selects RX1 yX1_clear yX1_clear]
def wsL_law_r12 : List Cond := [Cond.code yX1_clear cX1_clear 1 none, Cond.methodLink RX0 126 yX0_hearOthers, Cond.instanceMethod yX0_hearOthers, Cond.selects RX0 yX0_hearOthers yX0_hearOthers, Cond.code yX0_hearOthers cX0_hearOthers 4 none, Cond.fieldLink RX0 130 "SlotStart$Node" "last" "LSlotStart$Hearing;", Cond.fieldLink RX0 69 "SlotStart$Node" "at" "I", Cond.methodLink RX0 134 yX1_note, Cond.instanceMethod yX1_note, Cond.selects RX1 yX1_note yX1_note, Cond.code yX1_note cX1_note 5 none, Cond.fieldLink RX1 34 "SlotStart$Node" "at" "I", Cond.fieldLink RX1 39 "SlotStart$Node" "lie" "I", Cond.fieldLink RX1 46 "SlotStart$Node" "kind" "I", Cond.fieldLink RX1 49 "SlotStart$Node" "slot" "I", Cond.fieldLink RX1 52 "SlotStart$Node" "drift" "I", Cond.fieldLink RX1 55 "SlotStart$Node" "rate" "I", Cond.methodLink RX0 90 yX0_settle, Cond.instanceMethod yX0_settle, Cond.selects RX0 yX0_settle yX0_settle, Cond.code yX0_settle cX0_settle 6 none, Cond.fieldLink RX0 54 "SlotStart$Node" "is" "I", Cond.methodLink RX0 140 yX2_add, Cond.instanceMethod yX2_add]
def wsL_law_r13 : List Cond := [Cond.selects RX2 yX2_add yX2_add, Cond.code yX2_add cX2_add 5 none, Cond.methodLink RX0 144 yX3_settle, Cond.instanceMethod yX3_settle, Cond.selects RX3 yX3_settle yX3_settle, Cond.code yX3_settle cX3_settle 2 none, Cond.methodLink RX3 76 yX3_settleListening, Cond.instanceMethod yX3_settleListening, Cond.selects RX3 yX3_settleListening yX3_settleListening, Cond.code yX3_settleListening cX3_settleListening 2 none, Cond.fieldLink RX3 86 "SlotStart$Hearing" "heard" "I", Cond.fieldLink RX3 89 "SlotStart$Hearing" "guide" "I", Cond.fieldLink RX3 95 "SlotStart$Hearing" "starters" "I", Cond.methodLink RX3 92 yX3_followGuide, Cond.instanceMethod yX3_followGuide, Cond.selects RX3 yX3_followGuide yX3_followGuide, Cond.code yX3_followGuide cX3_followGuide 1 none, Cond.fieldLink RX3 98 "SlotStart$Hearing" "guideSeen" "I", Cond.fieldLink RX3 101 "SlotStart$Hearing" "guidePace" "I", Cond.methodLink RX3 80 yX3_settleLeading, Cond.instanceMethod yX3_settleLeading, Cond.selects RX3 yX3_settleLeading yX3_settleLeading, Cond.code yX3_settleLeading cX3_settleLeading 1 none, Cond.methodLink RX3 83 yX3_settleJoining]
def wsL_law_r14 : List Cond := [Cond.instanceMethod yX3_settleJoining, Cond.selects RX3 yX3_settleJoining yX3_settleJoining, Cond.code yX3_settleJoining cX3_settleJoining 1 none, Cond.methodLink RX0 145 yX3_correct, Cond.instanceMethod yX3_correct, Cond.selects RX3 yX3_correct yX3_correct, Cond.code yX3_correct cX3_correct 5 none, Cond.methodLink RX3 108 Lib.Math.abs.name, Cond.static Lib.Math.abs.name, Cond.initialized "java/lang/Math", Cond.code Lib.Math.abs.name Lib.Math.abs.code 1 (some .int), Cond.methodLink RX3 118 Lib.Math.min.name, Cond.static Lib.Math.min.name, Cond.code Lib.Math.min.name Lib.Math.min.code 2 (some .int), Cond.methodLink RX3 122 Lib.Math.max.name, Cond.static Lib.Math.max.name, Cond.code Lib.Math.max.name Lib.Math.max.code 2 (some .int), Cond.methodLink RX3 104 yX1_trimOfSeen, Cond.instanceMethod yX1_trimOfSeen, Cond.selects RX1 yX1_trimOfSeen yX1_trimOfSeen, Cond.code yX1_trimOfSeen cX1_trimOfSeen 3 (some .int), Cond.methodLink RX1 58 yX4_clear, Cond.instanceMethod yX4_clear, Cond.selects RX4 yX4_clear yX4_clear]
def wsL_law_r15 : List Cond := [Cond.code yX4_clear cX4_clear 1 none, Cond.methodLink RX1 63 yX4_put, Cond.instanceMethod yX4_put, Cond.selects RX4 yX4_put yX4_put, Cond.code yX4_put cX4_put 3 none, Cond.methodLink RX1 71 yX4_trimmed, Cond.instanceMethod yX4_trimmed, Cond.selects RX4 yX4_trimmed yX4_trimmed, Cond.code yX4_trimmed cX4_trimmed 3 (some .int), Cond.methodLink RX3 114 yX1_trimOfMoves, Cond.instanceMethod yX1_trimOfMoves, Cond.selects RX1 yX1_trimOfMoves yX1_trimOfMoves, Cond.code yX1_trimOfMoves cX1_trimOfMoves 4 (some .int), Cond.methodLink RX0 94 yX0_moveClocks, Cond.instanceMethod yX0_moveClocks, Cond.selects RX0 yX0_moveClocks yX0_moveClocks, Cond.code yX0_moveClocks cX0_moveClocks 3 none, Cond.fieldLink RX0 149 "SlotStart$Node" "drift" "I", Cond.fieldLink RX0 152 "SlotStart$Node" "rate" "I", Cond.fieldLink RX0 155 "SlotStart$Node" "age" "I", Cond.methodLink RX5 94 yX0_thatAre, Cond.instanceMethod yX0_thatAre, Cond.selects RX0 yX0_thatAre yX0_thatAre, Cond.code yX0_thatAre cX0_thatAre 4 (some .int)]
def wsL_law_r16 : List Cond := [Cond.methodLink RL 40 yX6_run, Cond.instanceMethod yX6_run, Cond.selects RX6 yX6_run yX6_run, Cond.code yX6_run cX6_run 3 (some .int), Cond.methodLink RX6 139 yX6_cycle, Cond.instanceMethod yX6_cycle, Cond.selects RX6 yX6_cycle yX6_cycle, Cond.code yX6_cycle cX6_cycle 2 none, Cond.methodLink RX6 127 yX6_laySenders, Cond.instanceMethod yX6_laySenders, Cond.selects RX6 yX6_laySenders yX6_laySenders, Cond.code yX6_laySenders cX6_laySenders 2 none, Cond.methodLink RX6 76 yX6_isFirst, Cond.instanceMethod yX6_isFirst, Cond.selects RX6 yX6_isFirst yX6_isFirst, Cond.code yX6_isFirst cX6_isFirst 2 (some .boolean), Cond.methodLink RX6 79 yX6_givesWay, Cond.instanceMethod yX6_givesWay, Cond.selects RX6 yX6_givesWay yX6_givesWay, Cond.code yX6_givesWay cX6_givesWay 4 (some .boolean), Cond.methodLink RX6 130 yX6_hear, Cond.instanceMethod yX6_hear, Cond.selects RX6 yX6_hear yX6_hear, Cond.code yX6_hear cX6_hear 3 none]
def wsL_law_r17 : List Cond := [Cond.methodLink RX6 133 yX6_end, Cond.instanceMethod yX6_end, Cond.selects RX6 yX6_end yX6_end, Cond.code yX6_end cX6_end 2 none, Cond.methodLink RX6 82 yX6_keepEvent, Cond.instanceMethod yX6_keepEvent, Cond.selects RX6 yX6_keepEvent yX6_keepEvent, Cond.code yX6_keepEvent cX6_keepEvent 3 none, Cond.methodLink RX6 115 yX6_listen, Cond.instanceMethod yX6_listen, Cond.selects RX6 yX6_listen yX6_listen, Cond.code yX6_listen cX6_listen 3 none, Cond.methodLink RX6 89 yX6_otherSign, Cond.instanceMethod yX6_otherSign, Cond.selects RX6 yX6_otherSign yX6_otherSign, Cond.code yX6_otherSign cX6_otherSign 4 (some .boolean), Cond.methodLink RX6 92 yX6_follow, Cond.instanceMethod yX6_follow, Cond.selects RX6 yX6_follow yX6_follow, Cond.code yX6_follow cX6_follow 4 none, Cond.methodLink RX6 86 yX6_become, Cond.instanceMethod yX6_become, Cond.selects RX6 yX6_become yX6_become, Cond.code yX6_become cX6_become 3 none]
def wsL_law_r18 : List Cond := [Cond.methodLink RX6 118 yX6_lead, Cond.instanceMethod yX6_lead, Cond.selects RX6 yX6_lead yX6_lead, Cond.code yX6_lead cX6_lead 2 none, Cond.methodLink RX6 121 yX6_join, Cond.instanceMethod yX6_join, Cond.selects RX6 yX6_join yX6_join, Cond.code yX6_join cX6_join 2 none, Cond.methodLink RX6 124 yX6_keepOn, Cond.instanceMethod yX6_keepOn, Cond.selects RX6 yX6_keepOn yX6_keepOn, Cond.code yX6_keepOn cX6_keepOn 2 none, Cond.methodLink RX6 112 yX6_correct, Cond.instanceMethod yX6_correct, Cond.selects RX6 yX6_correct yX6_correct, Cond.code yX6_correct cX6_correct 4 none, Cond.methodLink RX6 102 yX6_trimSeen, Cond.instanceMethod yX6_trimSeen, Cond.selects RX6 yX6_trimSeen yX6_trimSeen, Cond.code yX6_trimSeen cX6_trimSeen 3 (some .int), Cond.fieldLink RX6 72 "SlotStartModel" "many" "I", Cond.methodLink RX6 95 yX6_lay, Cond.instanceMethod yX6_lay, Cond.selects RX6 yX6_lay yX6_lay]
def wsL_law_r19 : List Cond := [Cond.code yX6_lay cX6_lay 3 none, Cond.methodLink RX6 98 yX6_trimmed, Cond.instanceMethod yX6_trimmed, Cond.selects RX6 yX6_trimmed yX6_trimmed, Cond.code yX6_trimmed cX6_trimmed 2 (some .int), Cond.methodLink RX6 106 yX6_plain, Cond.static yX6_plain, Cond.code yX6_plain cX6_plain 1 (some .int), Cond.methodLink RX6 109 yX6_trimChanged, Cond.instanceMethod yX6_trimChanged, Cond.selects RX6 yX6_trimChanged yX6_trimChanged, Cond.code yX6_trimChanged cX6_trimChanged 3 (some .int), Cond.methodLink RX6 136 yX6_keepCycle, Cond.instanceMethod yX6_keepCycle, Cond.selects RX6 yX6_keepCycle yX6_keepCycle, Cond.code yX6_keepCycle cX6_keepCycle 3 none, Cond.methodLink RX6 142 yX6_setOf, Cond.instanceMethod yX6_setOf, Cond.selects RX6 yX6_setOf yX6_setOf, Cond.code yX6_setOf cX6_setOf 4 (some .int), Cond.methodLink RL 41 yX5_told, Cond.instanceMethod yX5_told, Cond.selects RX5 yX5_told yX5_told, Cond.code yX5_told cX5_told 4 (some .int)]
def wsL_law_r20 : List Cond := [Cond.fieldLink RX5 97 "SlotStart$Node" "age" "I", Cond.fieldLink RX5 100 "SlotStart$Node" "quiet" "I", Cond.fieldLink RX5 103 "SlotStart$Node" "good" "I", Cond.fieldLink RX5 106 "SlotStart$Node" "bad" "I", Cond.fieldLink RX5 109 "SlotStart$Node" "at" "I", Cond.constant RX5 112 (100000), Cond.fieldLink RX5 113 "SlotStart$Node" "rate" "I", Cond.fieldLink RX5 116 "SlotStart$Node" "sent" "I", Cond.fieldLink RX5 119 "SlotStart$Node" "last" "LSlotStart$Hearing;", Cond.fieldLink RX5 123 "SlotStart$Hearing" "guide" "I", Cond.fieldLink RX5 128 "SlotStart$Hearing" "heard" "I", Cond.methodLink RL 44 yX6_told, Cond.instanceMethod yX6_told, Cond.selects RX6 yX6_told yX6_told, Cond.code yX6_told cX6_told 3 (some .int), Cond.constant RX6 145 (100000), Cond.methodLink RX6 146 yX6_size, Cond.static yX6_size, Cond.code yX6_size cX6_size 3 (some .int), Cond.methodLink RL 45 yX5_seen, Cond.instanceMethod yX5_seen, Cond.selects RX5 yX5_seen yX5_seen, Cond.code yX5_seen cX5_seen 4 (some .int), Cond.fieldLink RX5 134 "SlotStart$Hearing" "seen" "[I"]
def wsL_law_r21 : List Cond := [Cond.methodLink RX5 131 yX5_isIn, Cond.methodLink RL 48 yX6_seen, Cond.instanceMethod yX6_seen, Cond.selects RX6 yX6_seen yX6_seen, Cond.code yX6_seen cX6_seen 3 (some .int), Cond.methodLink RL 49 yX5_trim, Cond.instanceMethod yX5_trim, Cond.selects RX5 yX5_trim yX5_trim, Cond.code yX5_trim cX5_trim 6 (some .int), Cond.methodLink RX5 138 yX4_clear, Cond.methodLink RX5 141 yX4_put, Cond.methodLink RX5 145 yX4_areWithin, Cond.instanceMethod yX4_areWithin, Cond.selects RX4 yX4_areWithin yX4_areWithin, Cond.code yX4_areWithin cX4_areWithin 4 (some .boolean), Cond.methodLink RX5 148 yX4_trimmed, Cond.methodLink RL 53 yX6_trim, Cond.instanceMethod yX6_trim, Cond.selects RX6 yX6_trim yX6_trim, Cond.code yX6_trim cX6_trim 6 (some .int), Cond.methodLink RX6 149 yX6_isWithin, Cond.static yX6_isWithin, Cond.code yX6_isWithin cX6_isWithin 1 (some .boolean), Cond.methodLink RL 54 yX5_event]
def wsL_law_r22 : List Cond := [Cond.instanceMethod yX5_event, Cond.selects RX5 yX5_event yX5_event, Cond.code yX5_event cX5_event 4 (some .int), Cond.fieldLink RX5 151 "SlotStart$Bus" "log" "LSlotStart$Log;", Cond.fieldLink RX5 155 "SlotStart$Log" "size" "I", Cond.fieldLink RX5 163 "SlotStart$Log" "cycles" "[I", Cond.fieldLink RX5 166 "SlotStart$Log" "nodes" "[I", Cond.fieldLink RX5 168 "SlotStart$Log" "things" "[I", Cond.methodLink RX5 160 yX2_placeOf, Cond.instanceMethod yX2_placeOf, Cond.selects RX2 yX2_placeOf yX2_placeOf, Cond.code yX2_placeOf cX2_placeOf 2 (some .int), Cond.methodLink RL 57 yX6_event, Cond.instanceMethod yX6_event, Cond.selects RX6 yX6_event yX6_event, Cond.code yX6_event cX6_event 3 (some .int), Cond.methodLink RL 58 yX5_spread, Cond.instanceMethod yX5_spread, Cond.selects RX5 yX5_spread yX5_spread, Cond.code yX5_spread cX5_spread 1 (some .int), Cond.methodLink RX5 171 yX0_apart, Cond.instanceMethod yX0_apart, Cond.selects RX0 yX0_apart yX0_apart, Cond.code yX0_apart cX0_apart 7 (some .int)]
def wsL_law_r23 : List Cond := [Cond.methodLink RX0 72 Lib.Math.min.name, Cond.methodLink RX0 78 Lib.Math.max.name, Cond.methodLink RL 62 yX6_spread, Cond.instanceMethod yX6_spread, Cond.selects RX6 yX6_spread yX6_spread, Cond.code yX6_spread cX6_spread 1 (some .int), Cond.methodLink RX6 152 yX6_spreadBut, Cond.instanceMethod yX6_spreadBut, Cond.selects RX6 yX6_spreadBut yX6_spreadBut, Cond.code yX6_spreadBut cX6_spreadBut 6 (some .int), Cond.methodLink RL 63 yX5_soon, Cond.instanceMethod yX5_soon, Cond.selects RX5 yX5_soon yX5_soon, Cond.code yX5_soon cX5_soon 3 (some .int), Cond.methodLink RX5 174 yX0_copy, Cond.instanceMethod yX0_copy, Cond.selects RX0 yX0_copy yX0_copy, Cond.code yX0_copy cX0_copy 3 none, Cond.methodLink RX0 44 yX3_copy, Cond.instanceMethod yX3_copy, Cond.selects RX3 yX3_copy yX3_copy, Cond.code yX3_copy cX3_copy 2 none, Cond.methodLink RX3 65 yX1_copy, Cond.instanceMethod yX1_copy]
def wsL_law_r24 : List Cond := [Cond.selects RX1 yX1_copy yX1_copy, Cond.code yX1_copy cX1_copy 3 none, Cond.methodLink RX0 48 yX2_copy, Cond.instanceMethod yX2_copy, Cond.selects RX2 yX2_copy yX2_copy, Cond.code yX2_copy cX2_copy 3 none, Cond.methodLink RX5 178 yX5_areAllIn, Cond.static yX5_areAllIn, Cond.code yX5_areAllIn cX5_areAllIn 2 (some .boolean), Cond.methodLink RL 66 yX6_soon, Cond.instanceMethod yX6_soon, Cond.selects RX6 yX6_soon yX6_soon, Cond.code yX6_soon cX6_soon 4 (some .int), Cond.methodLink RX6 155 yX6_inSet, Cond.instanceMethod yX6_inSet, Cond.selects RX6 yX6_inSet yX6_inSet, Cond.code yX6_inSet cX6_inSet 3 (some .int), Cond.methodLink RX6 158 yX6_save, Cond.instanceMethod yX6_save, Cond.selects RX6 yX6_save yX6_save, Cond.code yX6_save cX6_save 3 none, Cond.methodLink RX6 161 yX6_load, Cond.instanceMethod yX6_load, Cond.selects RX6 yX6_load yX6_load]
def wsL_law_r25 : List Cond := [Cond.code yX6_load cX6_load 3 none, Cond.methodLink RL 67 yX5_bears, Cond.instanceMethod yX5_bears, Cond.selects RX5 yX5_bears yX5_bears, Cond.code yX5_bears cX5_bears 5 (some .int), Cond.methodLink RX5 181 yX5_bitOf, Cond.methodLink RX5 184 yX5_staysTogether, Cond.instanceMethod yX5_staysTogether, Cond.selects RX5 yX5_staysTogether yX5_staysTogether, Cond.code yX5_staysTogether cX5_staysTogether 7 (some .boolean), Cond.methodLink RL 70 yX6_bears, Cond.instanceMethod yX6_bears, Cond.selects RX6 yX6_bears yX6_bears, Cond.code yX6_bears cX6_bears 5 (some .int), Cond.methodLink RX6 164 yX6_bearsOne, Cond.instanceMethod yX6_bearsOne, Cond.selects RX6 yX6_bearsOne yX6_bearsOne, Cond.code yX6_bearsOne cX6_bearsOne 8 (some .boolean), Cond.methodLink RL 71 yX5_image, Cond.instanceMethod yX5_image, Cond.selects RX5 yX5_image yX5_image, Cond.code yX5_image cX5_image 2 (some .int), Cond.methodLink RL 74 yX6_image, Cond.instanceMethod yX6_image]
def wsL_law_r26 : List Cond := [Cond.selects RX6 yX6_image yX6_image, Cond.code yX6_image cX6_image 2 (some .int), Cond.methodLink RL 75 yX5_restore, Cond.instanceMethod yX5_restore, Cond.selects RX5 yX5_restore yX5_restore, Cond.code yX5_restore cX5_restore 2 (some .int), Cond.methodLink RL 78 yX6_restore, Cond.instanceMethod yX6_restore, Cond.selects RX6 yX6_restore yX6_restore, Cond.code yX6_restore cX6_restore 2 (some .int), Cond.methodLink RL 79 yX5_count, Cond.instanceMethod yX5_count, Cond.selects RX5 yX5_count yX5_count, Cond.code yX5_count cX5_count 2 (some .int), Cond.fieldLink RX5 187 "SlotStart$Bus" "cycles" "I", Cond.fieldLink RX5 189 "SlotStart$Bus" "senders" "I", Cond.methodLink RL 82 yX6_count, Cond.instanceMethod yX6_count, Cond.selects RX6 yX6_count yX6_count, Cond.code yX6_count cX6_count 2 (some .int)]
def wsL_law : List Cond := (wsL_law_r1 ++ (wsL_law_r2 ++ (wsL_law_r3 ++ (wsL_law_r4 ++ (wsL_law_r5 ++ (wsL_law_r6 ++ (wsL_law_r7 ++ (wsL_law_r8 ++ (wsL_law_r9 ++ (wsL_law_r10 ++ (wsL_law_r11 ++ (wsL_law_r12 ++ (wsL_law_r13 ++ (wsL_law_r14 ++ (wsL_law_r15 ++ (wsL_law_r16 ++ (wsL_law_r17 ++ (wsL_law_r18 ++ (wsL_law_r19 ++ (wsL_law_r20 ++ (wsL_law_r21 ++ (wsL_law_r22 ++ (wsL_law_r23 ++ (wsL_law_r24 ++ (wsL_law_r25 ++ wsL_law_r26))))))))))))))))))))))))) ++ wsX50 ++ wsX60 ++ wsX00 ++ wsX40 ++ wsX20 ++ wsX30 ++ wsX10 ++ ([] : List Cond)
theorem inlX0 : ∀ w ∈ wsX00, w ∈ wsL_law := fun _ h => List.mem_append_left _ (List.mem_append_left _ (List.mem_append_left _ (List.mem_append_left _ (List.mem_append_left _ (List.mem_append_right _ h)))))
theorem inlX1 : ∀ w ∈ wsX10, w ∈ wsL_law := fun _ h => List.mem_append_left _ (List.mem_append_right _ h)
theorem inlX2 : ∀ w ∈ wsX20, w ∈ wsL_law := fun _ h => List.mem_append_left _ (List.mem_append_left _ (List.mem_append_left _ (List.mem_append_right _ h)))
theorem inlX3 : ∀ w ∈ wsX30, w ∈ wsL_law := fun _ h => List.mem_append_left _ (List.mem_append_left _ (List.mem_append_right _ h))
theorem inlX4 : ∀ w ∈ wsX40, w ∈ wsL_law := fun _ h => List.mem_append_left _ (List.mem_append_left _ (List.mem_append_left _ (List.mem_append_left _ (List.mem_append_right _ h))))
theorem inlX5 : ∀ w ∈ wsX50, w ∈ wsL_law := fun _ h => List.mem_append_left _ (List.mem_append_left _ (List.mem_append_left _ (List.mem_append_left _ (List.mem_append_left _ (List.mem_append_left _ (List.mem_append_left _ (List.mem_append_right _ h)))))))
theorem inlX6 : ∀ w ∈ wsX60, w ∈ wsL_law := fun _ h => List.mem_append_left _ (List.mem_append_left _ (List.mem_append_left _ (List.mem_append_left _ (List.mem_append_left _ (List.mem_append_left _ (List.mem_append_right _ h))))))
abbrev vwCl : List vw_C := [(RX0, TX0, 6), (RX1, TX1, 7), (RX2, TX2, 5), (RX3, TX3, 16), (RX4, TX4, 2), (RX5, TX5, 5), (RX6, TX6, 14)]
